/-! X5_placeOf -/
abbrev rm_X5_placeOf : Room := { frames := 2, cells := 0, slots := 0, locals := 42 }
theorem sg_X5_placeOf : yX5_placeOf.cls ≠ "java/lang/invoke/MethodHandle" ∧ yX5_placeOf.cls ≠ "java/lang/invoke/VarHandle" ∧ (parseMethodDescriptor yX5_placeOf.desc).map (fun d => d.parameters.length) = some 2 := by decide +kernel
theorem hin_X5_placeOf_5 : ∀ w ∈ wsX50, w ∈ wsX5_placeOf := fun _ h => List.mem_cons_of_mem _ (List.mem_append_right _ h)
def rp_X5_placeOf (cI cJ cZ : ClassId) (qh : Nat → Nat) (S_h : gWS) (T_h : gWT) (U_h : gWU) (Q : Int → Prop) : Option Value → va_W → Prop := fun v w1 => ∃ (r : Int), v = some (.int (iI r)) ∧ w1 = (wdW cI cJ cZ qh S_h T_h U_h) ∧ Q r
def wp_X5_placeOf (T_h : gWT) (x1 : Int) (x2 : Int) (Q : Int → Prop) : Prop :=
    wp_X5_isLaid T_h x1 (fun (r2 : Int) => ((¬ r2 = 0 → rI x2 ∧ ((¬ x2 = 0 → wp_X6_at 10 T_h.2.2.1 x1 (fun (r31 : Int) => Q r31)) ∧ (¬ (¬ x2 = 0) → wp_X6_at 10 T_h.2.1 x1 (fun (r20 : Int) => Q r20)))) ∧ (¬ (¬ r2 = 0) → Q (-6))))

set_option maxHeartbeats 4000000 in
set_option maxRecDepth 20000 in
theorem c_X5_placeOf {l : Launch} {D : va_G} {cI cJ cZ : ClassId} (qh : Nat → Nat) (S_h : gWS) (T_h : gWT) (U_h : gWU) (x1 : Int) (x2 : Int) (Q : Int → Prop) (h : wp_X5_placeOf T_h x1 x2 Q) : KM l D (kT cI cJ cZ) 0 0 yX5_placeOf wsX5_placeOf rm_X5_placeOf [.ref (qh 0), .int (iI x1), .int (iI x2)] ((wdW cI cJ cZ qh S_h T_h U_h)) (rp_X5_placeOf cI cJ cZ qh S_h T_h U_h Q) := by
  refine KM_intro (lv := [(0, .ref (qh 0)), (1, .int (iI x1)), (2, .int (iI x2))]) false rfl (by decide) (Nat.le_of_ble_eq_true rfl) rfl (fun h => absurd h (by decide)) (fun v ws hq => by obtain ⟨r, rfl, rfl, _⟩ := hq; exact Or.inr (Or.inl ⟨rfl, _, rfl⟩)) (fun A K C => ?_)
  refine k_aload_n C dX5_placeOf_0 0 rfl rfl 1 rfl ?_
  refine k_iload_n C dX5_placeOf_1 1 rfl rfl 2 rfl ?_
  have hM := c_X5_isLaid (l := l) (D := D) (cI := cI) (cJ := cJ) (cZ := cZ) qh S_h T_h U_h x1 _ h
  refine k_callV C dX5_placeOf_2 hM gX5_placeOf_X5_isLaid rfl sg_X5_isLaid 5 rfl rfl rfl (Nat.le_of_ble_eq_true rfl) ⟨⟨rfl, rfl⟩, by decide, by decide⟩ ⟨Nat.le_refl 0, Nat.le_refl 0⟩ [0, 1, 2, 3, 4, 5, 6, 7, 8] [] rfl rfl rfl rfl (by decide) 0 0 ⟨rfl, rfl⟩ 5 rfl (fun v w1 hq2 => ?_)
  obtain ⟨r2, rfl, rfl, hb2, h⟩ := hq2
  refine k_perm C [0, 1, 2, 3, 4, 5, 6, 7, 8] [.int (iI r2)] ((wdW cI cJ cZ qh S_h T_h U_h)) rfl rfl rfl ?_
  obtain ⟨ht, hf⟩ := h
  refine k_if_ne C dX5_placeOf_5 (by rcases hb2 with rfl | rfl <;> decide) 11 8 (by decide) rfl (fun hc5 => ?_) (fun hc5 => ?_)
  · have h := ht hc5; clear ht hf
    refine k_iload_n C dX5_placeOf_11 2 rfl rfl 12 rfl ?_
    obtain ⟨hr12a, h⟩ := h
    obtain ⟨ht, hf⟩ := h
    refine k_if_ne C dX5_placeOf_12 hr12a 26 15 (by decide) rfl (fun hc12 => ?_) (fun hc12 => ?_)
    · have h := ht hc12; clear ht hf
      refine k_aload_n C dX5_placeOf_26 0 rfl rfl 27 rfl ?_
      refine k_get C dX5_placeOf_27 0 rfl (ci := 5) rfl hin_X5_placeOf_5 7 (by decide) (List.mem_of_getElem? (i := 2) rfl) rfl 30 rfl ?_
      refine k_iload_n C dX5_placeOf_30 1 rfl rfl 31 rfl ?_
      have hM := c_X6_at (l := l) (D := D) (cI := cI) (cJ := cJ) (cZ := cZ) (qh 5) 10 (by decide) T_h.2.2.1 x1 _ h
      refine k_callNS C dX5_placeOf_31 hM gX5_placeOf_X6_at_n71 (List.mem_of_getElem? (i := 37) rfl) (List.mem_of_getElem? (i := 10) rfl) rfl sg_X6_at (List.mem_of_getElem? (i := 12) rfl) rfl (Nat.le_of_ble_eq_true rfl) ⟨⟨rfl, rfl⟩, by decide, by decide⟩ ⟨Nat.le_refl 0, Nat.le_refl 0⟩ [5] [0, 1, 2, 3, 4, 6, 7, 8] rfl rfl rfl rfl (by decide) 0 0 ⟨rfl, rfl⟩ 34 rfl (fun v w1 hq31 => ?_)
      obtain ⟨r31, rfl, rfl, h⟩ := hq31
      refine k_perm C [0, 1, 2, 3, 4, 8, 5, 6, 7] [.int (iI r31)] ((wdW cI cJ cZ qh S_h T_h U_h)) rfl rfl rfl ?_
      exact k_iret C dX5_placeOf_34 ⟨r31, rfl, rfl, h⟩
    · have h := hf hc12; clear ht hf
      refine k_aload_n C dX5_placeOf_15 0 rfl rfl 16 rfl ?_
      refine k_get C dX5_placeOf_16 0 rfl (ci := 5) rfl hin_X5_placeOf_5 6 (by decide) (List.mem_of_getElem? (i := 1) rfl) rfl 19 rfl ?_
      refine k_iload_n C dX5_placeOf_19 1 rfl rfl 20 rfl ?_
      have hM := c_X6_at (l := l) (D := D) (cI := cI) (cJ := cJ) (cZ := cZ) (qh 4) 10 (by decide) T_h.2.1 x1 _ h
      refine k_callNS C dX5_placeOf_20 hM gX5_placeOf_X6_at_n71 (List.mem_of_getElem? (i := 37) rfl) (List.mem_of_getElem? (i := 10) rfl) rfl sg_X6_at (List.mem_of_getElem? (i := 12) rfl) rfl (Nat.le_of_ble_eq_true rfl) ⟨⟨rfl, rfl⟩, by decide, by decide⟩ ⟨Nat.le_refl 0, Nat.le_refl 0⟩ [4] [0, 1, 2, 3, 5, 6, 7, 8] rfl rfl rfl rfl (by decide) 0 0 ⟨rfl, rfl⟩ 23 rfl (fun v w1 hq20 => ?_)
      obtain ⟨r20, rfl, rfl, h⟩ := hq20
      refine k_perm C [0, 1, 2, 3, 8, 4, 5, 6, 7] [.int (iI r20)] ((wdW cI cJ cZ qh S_h T_h U_h)) rfl rfl rfl ?_
      refine k_goto C dX5_placeOf_23 34 (by decide) ?_
      exact k_iret C dX5_placeOf_34 ⟨r20, rfl, rfl, h⟩
  · have h := hf hc5; clear ht hf
    refine k_bipush C dX5_placeOf_8 (by decide) 10 rfl ?_
    exact k_iret C dX5_placeOf_10 ⟨(-6), rfl, rfl, h⟩

/-! X5_tallest -/
abbrev rm_X5_tallest : Room := { frames := 1, cells := 0, slots := 0, locals := 64 }
theorem sg_X5_tallest : yX5_tallest.cls ≠ "java/lang/invoke/MethodHandle" ∧ yX5_tallest.cls ≠ "java/lang/invoke/VarHandle" ∧ (parseMethodDescriptor yX5_tallest.desc).map (fun d => d.parameters.length) = some 0 := by decide +kernel
theorem hin_X5_tallest_5 : ∀ w ∈ wsX50, w ∈ wsX5_tallest := fun _ h => List.mem_cons_of_mem _ (List.mem_append_right _ h)
def rp_X5_tallest (cI cJ cZ : ClassId) (qh : Nat → Nat) (S_h : gWS) (T_h : gWT) (U_h : gWU) (Q : Int → Prop) : Option Value → va_W → Prop := fun v w1 => ∃ (r : Int), v = some (.int (iI r)) ∧ w1 = (wdW cI cJ cZ qh S_h T_h U_h) ∧ Q r
def wp_X5_tallest_4 (T_h : gWT) (K_29 : Int → Prop)  (Q : Int → Prop) : Nat → Int → Int → Prop
  | 0, _, _ => False
  | n4 + 1, x1, x2 =>
    rI x2 ∧ ((9 ≤ x2 → K_29 x1) ∧ (¬ (9 ≤ x2) → wp_X6_at 9 T_h.2.2.2.2 x2 (fun (r16 : Int) => rI x1 ∧ rI r16 ∧ wp_X5_tallest_4 T_h K_29 Q n4 (max x1 r16) (x2 + 1))))
def wp_X5_tallest (T_h : gWT) (Q : Int → Prop) : Prop :=
    ∃ m4, wp_X5_tallest_4 T_h (fun (x1 : Int) => Q x1) Q m4 0 0
set_option maxHeartbeats 4000000 in
set_option maxRecDepth 20000 in
theorem w_X5_tallest_4 {l : Launch} {D : va_G} {cI cJ cZ : ClassId} {A : Nat → Prop} {K : KT} {qh : Nat → Nat} {S_h : gWS} {T_h : gWT} {U_h : gWU} {Q : Int → Prop} {K_29 : Int → Prop} (C : KC cX5_tallest yX5_tallest.cls wsX5_tallest rm_X5_tallest 3 D (kT cI cJ cZ) A l false (rp_X5_tallest cI cJ cZ qh S_h T_h U_h Q) 0 0 K) : ∀ (n : Nat) (x1 : Int) (x2 : Int), wp_X5_tallest_4 T_h K_29 Q n x1 x2 → (∀ (x1 : Int), K_29 x1 → K 0 0 29 [(1, .int (iI x1))] [] ((wdW cI cJ cZ qh S_h T_h U_h))) → K 0 0 4 [(0, .ref (qh 0)), (1, .int (iI x1)), (2, .int (iI x2))] [] ((wdW cI cJ cZ qh S_h T_h U_h)) := by
  intro n
  induction n with
  | zero => intro x1 x2 h; exact h.elim
  | succ n ih =>
    intro x1 x2 h hK_29
    refine k_iload_n C dX5_tallest_4 2 rfl rfl 5 rfl ?_
    refine k_bipush C dX5_tallest_5 (by decide) 7 rfl ?_
    obtain ⟨hr7a, h⟩ := h
    obtain ⟨ht, hf⟩ := h
    refine k_icmp_ge C dX5_tallest_7 ⟨hr7a, (by decide)⟩ 29 10 (by decide) rfl (fun hc7 => ?_) (fun hc7 => ?_)
    · have h := ht hc7; clear ht hf
      refine k_lv C [1] [(1, .int (iI x1))] rfl ?_
      exact hK_29 x1 h
    · have h := hf hc7; clear ht hf
      refine k_iload_n C dX5_tallest_10 1 rfl rfl 11 rfl ?_
      refine k_aload_n C dX5_tallest_11 0 rfl rfl 12 rfl ?_
      refine k_get C dX5_tallest_12 0 rfl (ci := 5) rfl hin_X5_tallest_5 9 (by decide) (List.mem_of_getElem? (i := 1) rfl) rfl 15 rfl ?_
      refine k_iload_n C dX5_tallest_15 2 rfl rfl 16 rfl ?_
      have hM := c_X6_at (l := l) (D := D) (cI := cI) (cJ := cJ) (cZ := cZ) (qh 7) 9 (by decide) T_h.2.2.2.2 x2 _ h
      refine k_callNS C dX5_tallest_16 hM gX5_tallest_X6_at_n71 (List.mem_of_getElem? (i := 37) rfl) (List.mem_of_getElem? (i := 7) rfl) rfl sg_X6_at (List.mem_of_getElem? (i := 6) rfl) rfl (Nat.le_of_ble_eq_true rfl) ⟨⟨rfl, rfl⟩, by decide, by decide⟩ ⟨Nat.le_refl 0, Nat.le_refl 0⟩ [7] [0, 1, 2, 3, 4, 5, 6, 8] rfl rfl rfl rfl (by decide) 0 0 ⟨rfl, rfl⟩ 19 rfl (fun v w1 hq16 => ?_)
      obtain ⟨r16, rfl, rfl, h⟩ := hq16
      refine k_perm C [0, 1, 2, 3, 4, 5, 6, 8, 7] [.int (iI r16), .int (iI x1)] ((wdW cI cJ cZ qh S_h T_h U_h)) rfl rfl rfl ?_
      obtain ⟨hr19a, hr19b, h⟩ := h
      refine k_mmax C dX5_tallest_19 (List.mem_of_getElem? (i := 2) rfl) (List.mem_of_getElem? (i := 3) rfl) (List.mem_of_getElem? (i := 4) rfl) (List.mem_of_getElem? (i := 5) rfl) (by decide) (Nat.le_of_ble_eq_true rfl) ⟨Nat.zero_le _, Nat.zero_le _⟩ ⟨hr19a, hr19b⟩ 22 rfl ?_
      refine k_istore_n C dX5_tallest_22 rfl (by decide) [(1, .int (iI (max x1 r16))), (0, .ref (qh 0)), (2, .int (iI x2))] rfl 23 rfl ?_
      refine k_iinc (j := 2) C dX5_tallest_23 rfl (by decide) [(2, .int (iI (x2 + 1))), (1, .int (iI (max x1 r16))), (0, .ref (qh 0))] rfl 26 rfl ?_
      refine k_goto C dX5_tallest_26 4 (by decide) ?_
      refine k_lv C [2, 1, 0] [(0, .ref (qh 0)), (1, .int (iI (max x1 r16))), (2, .int (iI (x2 + 1)))] rfl ?_
      exact ih (max x1 r16) (x2 + 1) h hK_29
set_option maxHeartbeats 4000000 in
set_option maxRecDepth 20000 in
theorem c_X5_tallest {l : Launch} {D : va_G} {cI cJ cZ : ClassId} (qh : Nat → Nat) (S_h : gWS) (T_h : gWT) (U_h : gWU) (Q : Int → Prop) (h : wp_X5_tallest T_h Q) : KM l D (kT cI cJ cZ) 0 0 yX5_tallest wsX5_tallest rm_X5_tallest [.ref (qh 0)] ((wdW cI cJ cZ qh S_h T_h U_h)) (rp_X5_tallest cI cJ cZ qh S_h T_h U_h Q) := by
  refine KM_intro (lv := [(0, .ref (qh 0))]) false rfl (by decide) (Nat.le_of_ble_eq_true rfl) rfl (fun h => absurd h (by decide)) (fun v ws hq => by obtain ⟨r, rfl, rfl, _⟩ := hq; exact Or.inr (Or.inl ⟨rfl, _, rfl⟩)) (fun A K C => ?_)
  refine k_iconst C dX5_tallest_0 1 rfl ?_
  refine k_istore_n C dX5_tallest_1 rfl (by decide) [(1, .int (iI 0)), (0, .ref (qh 0))] rfl 2 rfl ?_
  refine k_iconst C dX5_tallest_2 3 rfl ?_
  refine k_istore_n C dX5_tallest_3 rfl (by decide) [(2, .int (iI 0)), (1, .int (iI 0)), (0, .ref (qh 0))] rfl 4 rfl ?_
  refine k_lv C [2, 1, 0] [(0, .ref (qh 0)), (1, .int (iI 0)), (2, .int (iI 0))] rfl ?_
  obtain ⟨m4, h⟩ := h
  refine w_X5_tallest_4 C m4 0 0 h (fun x1 h => ?_)
  · refine k_iload_n C dX5_tallest_29 0 rfl rfl 30 rfl ?_
    exact k_iret C dX5_tallest_30 ⟨x1, rfl, rfl, h⟩

/-! X5_heldCells -/
abbrev rm_X5_heldCells : Room := { frames := 0, cells := 0, slots := 0, locals := 0 }
theorem sg_X5_heldCells : yX5_heldCells.cls ≠ "java/lang/invoke/MethodHandle" ∧ yX5_heldCells.cls ≠ "java/lang/invoke/VarHandle" ∧ (parseMethodDescriptor yX5_heldCells.desc).map (fun d => d.parameters.length) = some 3 := by decide +kernel
theorem hin_X5_heldCells_5 : ∀ w ∈ wsX50, w ∈ wsX5_heldCells := fun _ h => List.mem_cons_of_mem _ (List.mem_append_right _ h)
def rp_X5_heldCells (cI cJ cZ : ClassId) (qh : Nat → Nat) (S_h : gWS) (T_h : gWT) (U_h : gWU) (Q : Int → Prop) : Option Value → va_W → Prop := fun v w1 => ∃ (r : Int), v = some (.int (iI r)) ∧ w1 = (wdW cI cJ cZ qh S_h T_h U_h) ∧ Q r
def wp_X5_heldCells_22 (T_h : gWT) (K_69 : Int → Prop)  (Q : Int → Prop) : Nat → Int → Int → Int → Int → Prop
  | 0, _, _, _, _ => False
  | n22 + 1, x3, x4, x5, x6 =>
    rI x6 ∧ rI x3 ∧ ((x3 ≤ x6 → K_69 x4) ∧ (¬ (x3 ≤ x6) → rI (x5 + x6) ∧ (((x5 + x6) < 0 → wp_X5_heldCells_22 T_h K_69 Q n22 x3 x4 x5 (x6 + 1)) ∧ (¬ ((x5 + x6) < 0) → ((90 ≤ (x5 + x6) → wp_X5_heldCells_22 T_h K_69 Q n22 x3 x4 x5 (x6 + 1)) ∧ (¬ (90 ≤ (x5 + x6)) → (0 ≤ (x5 + x6) ∧ (x5 + x6) < 90) ∧ rI (T_h.2.2.2.1 (x5 + x6)) ∧ (((T_h.2.2.2.1 (x5 + x6)) = 0 → wp_X5_heldCells_22 T_h K_69 Q n22 x3 x4 x5 (x6 + 1)) ∧ (¬ ((T_h.2.2.2.1 (x5 + x6)) = 0) → wp_X5_heldCells_22 T_h K_69 Q n22 x3 (x4 + 1) x5 (x6 + 1)))))))))
def wp_X5_heldCells (T_h : gWT) (x1 : Int) (x2 : Int) (x3 : Int) (Q : Int → Prop) : Prop :=
    rI x1 ∧ ((¬ x1 = 0 → ∃ m22, wp_X5_heldCells_22 T_h (fun (x4 : Int) => Q x4) Q m22 x3 0 (((x1 - 1) * 9) + x2) 0) ∧ (¬ (¬ x1 = 0) → Q x3))
set_option maxHeartbeats 4000000 in
set_option maxRecDepth 20000 in
theorem w_X5_heldCells_22 {l : Launch} {D : va_G} {cI cJ cZ : ClassId} {A : Nat → Prop} {K : KT} {qh : Nat → Nat} {S_h : gWS} {T_h : gWT} {U_h : gWU} {Q : Int → Prop} {K_69 : Int → Prop} (C : KC cX5_heldCells yX5_heldCells.cls wsX5_heldCells rm_X5_heldCells 8 D (kT cI cJ cZ) A l false (rp_X5_heldCells cI cJ cZ qh S_h T_h U_h Q) 0 0 K) : ∀ (n : Nat) (x3 : Int) (x4 : Int) (x5 : Int) (x6 : Int), wp_X5_heldCells_22 T_h K_69 Q n x3 x4 x5 x6 → (∀ (x4 : Int), K_69 x4 → K 0 0 69 [(4, .int (iI x4))] [] ((wdW cI cJ cZ qh S_h T_h U_h))) → K 0 0 22 [(0, .ref (qh 0)), (3, .int (iI x3)), (4, .int (iI x4)), (5, .int (iI x5)), (6, .int (iI x6))] [] ((wdW cI cJ cZ qh S_h T_h U_h)) := by
  intro n
  induction n with
  | zero => intro x3 x4 x5 x6 h; exact h.elim
  | succ n ih =>
    intro x3 x4 x5 x6 h hK_69
    refine k_iload C dX5_heldCells_22 4 rfl 24 rfl ?_
    refine k_iload_n C dX5_heldCells_24 1 rfl rfl 25 rfl ?_
    obtain ⟨hr25a, hr25b, h⟩ := h
    obtain ⟨ht, hf⟩ := h
    refine k_icmp_ge C dX5_heldCells_25 ⟨hr25a, hr25b⟩ 69 28 (by decide) rfl (fun hc25 => ?_) (fun hc25 => ?_)
    · have h := ht hc25; clear ht hf
      refine k_lv C [2] [(4, .int (iI x4))] rfl ?_
      exact hK_69 x4 h
    · have h := hf hc25; clear ht hf
      refine k_iload C dX5_heldCells_28 3 rfl 30 rfl ?_
      refine k_iload C dX5_heldCells_30 4 rfl 32 rfl ?_
      refine k_iadd C dX5_heldCells_32 33 rfl ?_
      refine k_istore C dX5_heldCells_33 (by decide) [(7, .int (iI (x5 + x6))), (0, .ref (qh 0)), (3, .int (iI x3)), (4, .int (iI x4)), (5, .int (iI x5)), (6, .int (iI x6))] rfl 35 rfl ?_
      refine k_iload C dX5_heldCells_35 0 rfl 37 rfl ?_
      obtain ⟨hr37a, h⟩ := h
      obtain ⟨ht, hf⟩ := h
      refine k_if_lt C dX5_heldCells_37 hr37a 63 40 (by decide) rfl (fun hc37 => ?_) (fun hc37 => ?_)
      · have h := ht hc37; clear ht hf
        refine k_iinc (j := 5) C dX5_heldCells_63 rfl (by decide) [(6, .int (iI (x6 + 1))), (7, .int (iI (x5 + x6))), (0, .ref (qh 0)), (3, .int (iI x3)), (4, .int (iI x4)), (5, .int (iI x5))] rfl 66 rfl ?_
        refine k_goto C dX5_heldCells_66 22 (by decide) ?_
        refine k_lv C [2, 3, 4, 5, 0] [(0, .ref (qh 0)), (3, .int (iI x3)), (4, .int (iI x4)), (5, .int (iI x5)), (6, .int (iI (x6 + 1)))] rfl ?_
        exact ih x3 x4 x5 (x6 + 1) h hK_69
      · have h := hf hc37; clear ht hf
        refine k_iload C dX5_heldCells_40 0 rfl 42 rfl ?_
        refine k_aload_n C dX5_heldCells_42 1 rfl rfl 43 rfl ?_
        refine k_get C dX5_heldCells_43 0 rfl (ci := 5) rfl hin_X5_heldCells_5 8 (by decide) (List.mem_of_getElem? (i := 1) rfl) rfl 46 rfl ?_
        refine k_alen C dX5_heldCells_46 6 0 rfl rfl 47 rfl ?_
        obtain ⟨ht, hf⟩ := h
        refine k_icmp_ge C dX5_heldCells_47 ⟨hr37a, (by decide)⟩ 63 50 (by decide) rfl (fun hc47 => ?_) (fun hc47 => ?_)
        · have h := ht hc47; clear ht hf
          refine k_iinc (j := 5) C dX5_heldCells_63 rfl (by decide) [(6, .int (iI (x6 + 1))), (7, .int (iI (x5 + x6))), (0, .ref (qh 0)), (3, .int (iI x3)), (4, .int (iI x4)), (5, .int (iI x5))] rfl 66 rfl ?_
          refine k_goto C dX5_heldCells_66 22 (by decide) ?_
          refine k_lv C [2, 3, 4, 5, 0] [(0, .ref (qh 0)), (3, .int (iI x3)), (4, .int (iI x4)), (5, .int (iI x5)), (6, .int (iI (x6 + 1)))] rfl ?_
          exact ih x3 x4 x5 (x6 + 1) h hK_69
        · have h := hf hc47; clear ht hf
          refine k_aload_n C dX5_heldCells_50 1 rfl rfl 51 rfl ?_
          refine k_get C dX5_heldCells_51 0 rfl (ci := 5) rfl hin_X5_heldCells_5 8 (by decide) (List.mem_of_getElem? (i := 1) rfl) rfl 54 rfl ?_
          refine k_iload C dX5_heldCells_54 0 rfl 56 rfl ?_
          obtain ⟨hi56, h⟩ := h
          refine k_iaload C dX5_heldCells_56 6 0 rfl rfl (by decide) hi56 57 rfl ?_
          obtain ⟨hr57a, h⟩ := h
          obtain ⟨ht, hf⟩ := h
          refine k_if_eq C dX5_heldCells_57 hr57a 63 60 (by decide) rfl (fun hc57 => ?_) (fun hc57 => ?_)
          · have h := ht hc57; clear ht hf
            refine k_iinc (j := 5) C dX5_heldCells_63 rfl (by decide) [(6, .int (iI (x6 + 1))), (7, .int (iI (x5 + x6))), (0, .ref (qh 0)), (3, .int (iI x3)), (4, .int (iI x4)), (5, .int (iI x5))] rfl 66 rfl ?_
            refine k_goto C dX5_heldCells_66 22 (by decide) ?_
            refine k_lv C [2, 3, 4, 5, 0] [(0, .ref (qh 0)), (3, .int (iI x3)), (4, .int (iI x4)), (5, .int (iI x5)), (6, .int (iI (x6 + 1)))] rfl ?_
            exact ih x3 x4 x5 (x6 + 1) h hK_69
          · have h := hf hc57; clear ht hf
            refine k_iinc (j := 3) C dX5_heldCells_60 rfl (by decide) [(4, .int (iI (x4 + 1))), (7, .int (iI (x5 + x6))), (0, .ref (qh 0)), (3, .int (iI x3)), (5, .int (iI x5)), (6, .int (iI x6))] rfl 63 rfl ?_
            refine k_iinc (j := 5) C dX5_heldCells_63 rfl (by decide) [(6, .int (iI (x6 + 1))), (4, .int (iI (x4 + 1))), (7, .int (iI (x5 + x6))), (0, .ref (qh 0)), (3, .int (iI x3)), (5, .int (iI x5))] rfl 66 rfl ?_
            refine k_goto C dX5_heldCells_66 22 (by decide) ?_
            refine k_lv C [3, 4, 1, 5, 0] [(0, .ref (qh 0)), (3, .int (iI x3)), (4, .int (iI (x4 + 1))), (5, .int (iI x5)), (6, .int (iI (x6 + 1)))] rfl ?_
            exact ih x3 (x4 + 1) x5 (x6 + 1) h hK_69
set_option maxHeartbeats 4000000 in
set_option maxRecDepth 20000 in
theorem c_X5_heldCells {l : Launch} {D : va_G} {cI cJ cZ : ClassId} (qh : Nat → Nat) (S_h : gWS) (T_h : gWT) (U_h : gWU) (x1 : Int) (x2 : Int) (x3 : Int) (Q : Int → Prop) (h : wp_X5_heldCells T_h x1 x2 x3 Q) : KM l D (kT cI cJ cZ) 0 0 yX5_heldCells wsX5_heldCells rm_X5_heldCells [.ref (qh 0), .int (iI x1), .int (iI x2), .int (iI x3)] ((wdW cI cJ cZ qh S_h T_h U_h)) (rp_X5_heldCells cI cJ cZ qh S_h T_h U_h Q) := by
  refine KM_intro (lv := [(0, .ref (qh 0)), (1, .int (iI x1)), (2, .int (iI x2)), (3, .int (iI x3))]) false rfl (by decide) (Nat.le_of_ble_eq_true rfl) rfl (fun h => absurd h (by decide)) (fun v ws hq => by obtain ⟨r, rfl, rfl, _⟩ := hq; exact Or.inr (Or.inl ⟨rfl, _, rfl⟩)) (fun A K C => ?_)
  refine k_iload_n C dX5_heldCells_0 1 rfl rfl 1 rfl ?_
  obtain ⟨hr1a, h⟩ := h
  obtain ⟨ht, hf⟩ := h
  refine k_if_ne C dX5_heldCells_1 hr1a 6 4 (by decide) rfl (fun hc1 => ?_) (fun hc1 => ?_)
  · have h := ht hc1; clear ht hf
    refine k_iconst C dX5_heldCells_6 7 rfl ?_
    refine k_istore C dX5_heldCells_7 (by decide) [(4, .int (iI 0)), (0, .ref (qh 0)), (1, .int (iI x1)), (2, .int (iI x2)), (3, .int (iI x3))] rfl 9 rfl ?_
    refine k_iload_n C dX5_heldCells_9 2 rfl rfl 10 rfl ?_
    refine k_iconst C dX5_heldCells_10 11 rfl ?_
    refine k_isub C dX5_heldCells_11 12 rfl ?_
    refine k_bipush C dX5_heldCells_12 (by decide) 14 rfl ?_
    refine k_imul C dX5_heldCells_14 15 rfl ?_
    refine k_iload_n C dX5_heldCells_15 3 rfl rfl 16 rfl ?_
    refine k_iadd C dX5_heldCells_16 17 rfl ?_
    refine k_istore C dX5_heldCells_17 (by decide) [(5, .int (iI (((x1 - 1) * 9) + x2))), (4, .int (iI 0)), (0, .ref (qh 0)), (1, .int (iI x1)), (2, .int (iI x2)), (3, .int (iI x3))] rfl 19 rfl ?_
    refine k_iconst C dX5_heldCells_19 20 rfl ?_
    refine k_istore C dX5_heldCells_20 (by decide) [(6, .int (iI 0)), (5, .int (iI (((x1 - 1) * 9) + x2))), (4, .int (iI 0)), (0, .ref (qh 0)), (1, .int (iI x1)), (2, .int (iI x2)), (3, .int (iI x3))] rfl 22 rfl ?_
    refine k_lv C [3, 6, 2, 1, 0] [(0, .ref (qh 0)), (3, .int (iI x3)), (4, .int (iI 0)), (5, .int (iI (((x1 - 1) * 9) + x2))), (6, .int (iI 0))] rfl ?_
    obtain ⟨m22, h⟩ := h
    refine w_X5_heldCells_22 C m22 x3 0 (((x1 - 1) * 9) + x2) 0 h (fun x4 h => ?_)
    · refine k_iload C dX5_heldCells_69 0 rfl 71 rfl ?_
      exact k_iret C dX5_heldCells_71 ⟨x4, rfl, rfl, h⟩
  · have h := hf hc1; clear ht hf
    refine k_iload_n C dX5_heldCells_4 3 rfl rfl 5 rfl ?_
    exact k_iret C dX5_heldCells_5 ⟨x3, rfl, rfl, h⟩

/-! X6_at_ -/
abbrev rm_X6_at_ : Room := { frames := 0, cells := 0, slots := 0, locals := 0 }
theorem sg_X6_at_ : yX6_at_.cls ≠ "java/lang/invoke/MethodHandle" ∧ yX6_at_.cls ≠ "java/lang/invoke/VarHandle" ∧ (parseMethodDescriptor yX6_at_.desc).map (fun d => d.parameters.length) = some 2 := by decide +kernel
def rp_X6_at_ (cI cJ cZ : ClassId) (qa0 : Nat) (N_a0 : Nat) (f_a0 : (Int → Int)) (Q : Int → Prop) : Option Value → va_W → Prop := fun v w1 => ∃ (r : Int), v = some (.long (lL r)) ∧ w1 = [(qa0, .inl (cJ, N_a0, .inr (.inl (mL f_a0))))] ∧ Q r
def wp_X6_at_ (n_a0 : Int) (f_a0 : (Int → Int)) (x1 : Int) (Q : Int → Prop) : Prop :=
    rI x1 ∧ ((x1 < 0 → Q 0) ∧ (¬ (x1 < 0) → ((n_a0 ≤ x1 → Q 0) ∧ (¬ (n_a0 ≤ x1) → (0 ≤ x1 ∧ x1 < n_a0) ∧ Q (f_a0 x1)))))

set_option maxHeartbeats 4000000 in
set_option maxRecDepth 20000 in
theorem c_X6_at_ {l : Launch} {D : va_G} {cI cJ cZ : ClassId} (qa0 : Nat) (N_a0 : Nat) (hN_a0 : N_a0 ≤ 2147483647) (f_a0 : (Int → Int)) (x1 : Int) (Q : Int → Prop) (h : wp_X6_at_ (N_a0 : Int) f_a0 x1 Q) : KM l D (kT cI cJ cZ) 0 0 yX6_at_ wsX6_at_ rm_X6_at_ [.ref qa0, .int (iI x1)] ([(qa0, .inl (cJ, N_a0, .inr (.inl (mL f_a0))))]) (rp_X6_at_ cI cJ cZ qa0 N_a0 f_a0 Q) := by
  refine KM_intro (lv := [(0, .ref qa0), (1, .int (iI x1))]) false rfl (by decide) (Nat.le_of_ble_eq_true rfl) rfl (fun h => absurd h (by decide)) (fun v ws hq => by obtain ⟨r, rfl, rfl, _⟩ := hq; exact Or.inr (Or.inr (Or.inr ⟨rfl, _, rfl⟩))) (fun A K C => ?_)
  refine k_aload_n C dX6_at__0 0 rfl rfl 1 rfl ?_
  refine k_ifnull C dX6_at__1 4 rfl ?_
  refine k_iload_n C dX6_at__4 1 rfl rfl 5 rfl ?_
  obtain ⟨hr5a, h⟩ := h
  obtain ⟨ht, hf⟩ := h
  refine k_if_lt C dX6_at__5 hr5a 20 8 (by decide) rfl (fun hc5 => ?_) (fun hc5 => ?_)
  · have h := ht hc5; clear ht hf
    refine k_lconst (v := 0) C dX6_at__20 (by decide) 21 rfl ?_
    exact k_lret C dX6_at__21 ⟨0, rfl, rfl, h⟩
  · have h := hf hc5; clear ht hf
    refine k_iload_n C dX6_at__8 1 rfl rfl 9 rfl ?_
    refine k_aload_n C dX6_at__9 0 rfl rfl 10 rfl ?_
    refine k_alen C dX6_at__10 0 1 rfl rfl 11 rfl ?_
    obtain ⟨ht, hf⟩ := h
    refine k_icmp_ge C dX6_at__11 ⟨hr5a, ⟨by omega, by omega⟩⟩ 20 14 (by decide) rfl (fun hc11 => ?_) (fun hc11 => ?_)
    · have h := ht hc11; clear ht hf
      refine k_lconst (v := 0) C dX6_at__20 (by decide) 21 rfl ?_
      exact k_lret C dX6_at__21 ⟨0, rfl, rfl, h⟩
    · have h := hf hc11; clear ht hf
      refine k_aload_n C dX6_at__14 0 rfl rfl 15 rfl ?_
      refine k_iload_n C dX6_at__15 1 rfl rfl 16 rfl ?_
      obtain ⟨hi16, h⟩ := h
      refine k_laload C dX6_at__16 0 1 rfl rfl hN_a0 hi16 17 rfl ?_
      refine k_goto C dX6_at__17 21 (by decide) ?_
      exact k_lret C dX6_at__21 ⟨f_a0 x1, rfl, rfl, h⟩

/-! X5_isTooHeavyOn -/
abbrev rm_X5_isTooHeavyOn : Room := { frames := 1, cells := 0, slots := 0, locals := 21 }
theorem sg_X5_isTooHeavyOn : yX5_isTooHeavyOn.cls ≠ "java/lang/invoke/MethodHandle" ∧ yX5_isTooHeavyOn.cls ≠ "java/lang/invoke/VarHandle" ∧ (parseMethodDescriptor yX5_isTooHeavyOn.desc).map (fun d => d.parameters.length) = some 1 := by decide +kernel
theorem hin_X5_isTooHeavyOn_5 : ∀ w ∈ wsX50, w ∈ wsX5_isTooHeavyOn := fun _ h => List.mem_cons_of_mem _ (List.mem_append_right _ h)
def rp_X5_isTooHeavyOn (cI cJ cZ : ClassId) (qh : Nat → Nat) (S_h : gWS) (T_h : gWT) (U_h : gWU) (Q : Int → Prop) : Option Value → va_W → Prop := fun v w1 => ∃ (r : Int), v = some (.int (iI r)) ∧ w1 = (wdW cI cJ cZ qh S_h T_h U_h) ∧ (r = 0 ∨ r = 1) ∧ Q r
def wp_X5_isTooHeavyOn (S_h : gWS) (U_h : gWU) (x1 : Int) (Q : Int → Prop) : Prop :=
    wp_X6_at_ 10 U_h x1 (fun (r5 : Int) => wp_X6_at 10 S_h.2.2.2.2 x1 (fun (r13 : Int) => rI r13 ∧ rL r5 ∧ rL (r13 * 10077696) ∧ ((r5 ≤ (r13 * 10077696) → Q 0) ∧ (¬ (r5 ≤ (r13 * 10077696)) → Q 1))))

set_option maxHeartbeats 4000000 in
set_option maxRecDepth 20000 in
theorem c_X5_isTooHeavyOn {l : Launch} {D : va_G} {cI cJ cZ : ClassId} (qh : Nat → Nat) (S_h : gWS) (T_h : gWT) (U_h : gWU) (x1 : Int) (Q : Int → Prop) (h : wp_X5_isTooHeavyOn S_h U_h x1 Q) : KM l D (kT cI cJ cZ) 0 0 yX5_isTooHeavyOn wsX5_isTooHeavyOn rm_X5_isTooHeavyOn [.ref (qh 0), .int (iI x1)] ((wdW cI cJ cZ qh S_h T_h U_h)) (rp_X5_isTooHeavyOn cI cJ cZ qh S_h T_h U_h Q) := by
  refine KM_intro (lv := [(0, .ref (qh 0)), (1, .int (iI x1))]) false rfl (by decide) (Nat.le_of_ble_eq_true rfl) rfl (fun h => absurd h (by decide)) (fun v ws hq => by obtain ⟨r, rfl, rfl, hb, _⟩ := hq; exact Or.inr (Or.inr (Or.inl ⟨rfl, by rcases hb with rfl | rfl; exact Or.inl rfl; exact Or.inr rfl⟩))) (fun A K C => ?_)
  refine k_aload_n C dX5_isTooHeavyOn_0 0 rfl rfl 1 rfl ?_
  refine k_get C dX5_isTooHeavyOn_1 0 rfl (ci := 5) rfl hin_X5_isTooHeavyOn_5 10 (by decide) (List.mem_of_getElem? (i := 1) rfl) rfl 4 rfl ?_
  refine k_iload_n C dX5_isTooHeavyOn_4 1 rfl rfl 5 rfl ?_
  have hM := c_X6_at_ (l := l) (D := D) (cI := cI) (cJ := cJ) (cZ := cZ) (qh 8) 10 (by decide) U_h x1 _ h
  refine k_callNS C dX5_isTooHeavyOn_5 hM gX5_isTooHeavyOn_X6_at__n127 (List.mem_of_getElem? (i := 39) rfl) (List.mem_of_getElem? (i := 5) rfl) rfl sg_X6_at_ (List.mem_of_getElem? (i := 4) rfl) rfl (Nat.le_of_ble_eq_true rfl) ⟨⟨rfl, rfl⟩, by decide, by decide⟩ ⟨Nat.le_refl 0, Nat.le_refl 0⟩ [8] [0, 1, 2, 3, 4, 5, 6, 7] rfl rfl rfl rfl (by decide) 0 0 ⟨rfl, rfl⟩ 8 rfl (fun v w1 hq5 => ?_)
  obtain ⟨r5, rfl, rfl, h⟩ := hq5
  refine k_perm C [0, 1, 2, 3, 4, 5, 6, 7, 8] [.long (lL r5)] ((wdW cI cJ cZ qh S_h T_h U_h)) rfl rfl rfl ?_
  refine k_aload_n C dX5_isTooHeavyOn_8 0 rfl rfl 9 rfl ?_
  refine k_get C dX5_isTooHeavyOn_9 0 rfl (ci := 5) rfl hin_X5_isTooHeavyOn_5 5 (by decide) (List.mem_of_getElem? (i := 2) rfl) rfl 12 rfl ?_
  refine k_iload_n C dX5_isTooHeavyOn_12 1 rfl rfl 13 rfl ?_
  have hM := c_X6_at (l := l) (D := D) (cI := cI) (cJ := cJ) (cZ := cZ) (qh 3) 10 (by decide) S_h.2.2.2.2 x1 _ h
  refine k_callNS C dX5_isTooHeavyOn_13 hM gX5_isTooHeavyOn_X6_at_n71 (List.mem_of_getElem? (i := 37) rfl) (List.mem_of_getElem? (i := 5) rfl) rfl sg_X6_at (List.mem_of_getElem? (i := 7) rfl) rfl (Nat.le_of_ble_eq_true rfl) ⟨⟨rfl, rfl⟩, by decide, by decide⟩ ⟨Nat.le_refl 0, Nat.le_refl 0⟩ [3] [0, 1, 2, 4, 5, 6, 7, 8] rfl rfl rfl rfl (by decide) 0 0 ⟨rfl, rfl⟩ 16 rfl (fun v w1 hq13 => ?_)
  obtain ⟨r13, rfl, rfl, h⟩ := hq13
  refine k_perm C [0, 1, 2, 8, 3, 4, 5, 6, 7] [.int (iI r13), .long (lL r5)] ((wdW cI cJ cZ qh S_h T_h U_h)) rfl rfl rfl ?_
  obtain ⟨hr16a, h⟩ := h
  refine k_i2l C dX5_isTooHeavyOn_16 hr16a 17 rfl ?_
  refine k_ldc2 (v := 10077696) C dX5_isTooHeavyOn_17 (List.mem_of_getElem? (i := 3) rfl) (by decide) 20 rfl ?_
  refine k_lmul C dX5_isTooHeavyOn_20 21 rfl ?_
  obtain ⟨hr21a, hr21b, h⟩ := h
  obtain ⟨ht, hf⟩ := h
  refine k_lcmp_le C dX5_isTooHeavyOn_21 dX5_isTooHeavyOn_22 ⟨hr21a, hr21b⟩ 29 25 (by decide) rfl (fun hc21 => ?_) (fun hc21 => ?_)
  · have h := ht hc21; clear ht hf
    refine k_iconst C dX5_isTooHeavyOn_29 30 rfl ?_
    exact k_iret C dX5_isTooHeavyOn_30 ⟨0, rfl, rfl, (by decide), h⟩
  · have h := hf hc21; clear ht hf
    refine k_iconst C dX5_isTooHeavyOn_25 26 rfl ?_
    refine k_goto C dX5_isTooHeavyOn_26 30 (by decide) ?_
    exact k_iret C dX5_isTooHeavyOn_30 ⟨1, rfl, rfl, (by decide), h⟩

/-! X5_isAnyTooHeavy -/
abbrev rm_X5_isAnyTooHeavy : Room := { frames := 2, cells := 0, slots := 0, locals := 42 }
theorem sg_X5_isAnyTooHeavy : yX5_isAnyTooHeavy.cls ≠ "java/lang/invoke/MethodHandle" ∧ yX5_isAnyTooHeavy.cls ≠ "java/lang/invoke/VarHandle" ∧ (parseMethodDescriptor yX5_isAnyTooHeavy.desc).map (fun d => d.parameters.length) = some 0 := by decide +kernel
def rp_X5_isAnyTooHeavy (cI cJ cZ : ClassId) (qh : Nat → Nat) (S_h : gWS) (T_h : gWT) (U_h : gWU) (Q : Int → Prop) : Option Value → va_W → Prop := fun v w1 => ∃ (r : Int), v = some (.int (iI r)) ∧ w1 = (wdW cI cJ cZ qh S_h T_h U_h) ∧ (r = 0 ∨ r = 1) ∧ Q r
def wp_X5_isAnyTooHeavy_2 (S_h : gWS) (T_h : gWT) (U_h : gWU) (K_24 : Prop) (K_32 : Prop)  (Q : Int → Prop) : Nat → Int → Prop
  | 0, _ => False
  | n2 + 1, x1 =>
    rI x1 ∧ ((10 ≤ x1 → K_32 ) ∧ (¬ (10 ≤ x1) → wp_X5_isLaid T_h x1 (fun (r10 : Int) => ((r10 = 0 → wp_X5_isAnyTooHeavy_2 S_h T_h U_h K_24 K_32 Q n2 (x1 + 1)) ∧ (¬ (r10 = 0) → wp_X5_isTooHeavyOn S_h U_h x1 (fun (r18 : Int) => ((r18 = 0 → wp_X5_isAnyTooHeavy_2 S_h T_h U_h K_24 K_32 Q n2 (x1 + 1)) ∧ (¬ (r18 = 0) → K_24 ))))))))
def wp_X5_isAnyTooHeavy (S_h : gWS) (T_h : gWT) (U_h : gWU) (Q : Int → Prop) : Prop :=
    ∃ m2, wp_X5_isAnyTooHeavy_2 S_h T_h U_h (Q 1) (Q 0) Q m2 0
set_option maxHeartbeats 4000000 in
set_option maxRecDepth 20000 in
theorem w_X5_isAnyTooHeavy_2 {l : Launch} {D : va_G} {cI cJ cZ : ClassId} {A : Nat → Prop} {K : KT} {qh : Nat → Nat} {S_h : gWS} {T_h : gWT} {U_h : gWU} {Q : Int → Prop} {K_24 : Prop} {K_32 : Prop} (C : KC cX5_isAnyTooHeavy yX5_isAnyTooHeavy.cls wsX5_isAnyTooHeavy rm_X5_isAnyTooHeavy 2 D (kT cI cJ cZ) A l false (rp_X5_isAnyTooHeavy cI cJ cZ qh S_h T_h U_h Q) 0 0 K) : ∀ (n : Nat) (x1 : Int), wp_X5_isAnyTooHeavy_2 S_h T_h U_h K_24 K_32 Q n x1 → (∀ (_ : Unit), K_24  → K 0 0 24 [] [] ((wdW cI cJ cZ qh S_h T_h U_h))) → (∀ (_ : Unit), K_32  → K 0 0 32 [] [] ((wdW cI cJ cZ qh S_h T_h U_h))) → K 0 0 2 [(0, .ref (qh 0)), (1, .int (iI x1))] [] ((wdW cI cJ cZ qh S_h T_h U_h)) := by
  intro n
  induction n with
  | zero => intro x1 h; exact h.elim
  | succ n ih =>
    intro x1 h hK_24 hK_32
    refine k_iload_n C dX5_isAnyTooHeavy_2 1 rfl rfl 3 rfl ?_
    refine k_bipush C dX5_isAnyTooHeavy_3 (by decide) 5 rfl ?_
    obtain ⟨hr5a, h⟩ := h
    obtain ⟨ht, hf⟩ := h
    refine k_icmp_ge C dX5_isAnyTooHeavy_5 ⟨hr5a, (by decide)⟩ 32 8 (by decide) rfl (fun hc5 => ?_) (fun hc5 => ?_)
    · have h := ht hc5; clear ht hf
      refine k_lv C [] [] rfl ?_
      exact hK_32 () h
    · have h := hf hc5; clear ht hf
      refine k_aload_n C dX5_isAnyTooHeavy_8 0 rfl rfl 9 rfl ?_
      refine k_iload_n C dX5_isAnyTooHeavy_9 1 rfl rfl 10 rfl ?_
      have hM := c_X5_isLaid (l := l) (D := D) (cI := cI) (cJ := cJ) (cZ := cZ) qh S_h T_h U_h x1 _ h
      refine k_callV C dX5_isAnyTooHeavy_10 hM gX5_isAnyTooHeavy_X5_isLaid rfl sg_X5_isLaid 5 rfl rfl rfl (Nat.le_of_ble_eq_true rfl) ⟨⟨rfl, rfl⟩, by decide, by decide⟩ ⟨Nat.le_refl 0, Nat.le_refl 0⟩ [0, 1, 2, 3, 4, 5, 6, 7, 8] [] rfl rfl rfl rfl (by decide) 0 0 ⟨rfl, rfl⟩ 13 rfl (fun v w1 hq10 => ?_)
      obtain ⟨r10, rfl, rfl, hb10, h⟩ := hq10
      refine k_perm C [0, 1, 2, 3, 4, 5, 6, 7, 8] [.int (iI r10)] ((wdW cI cJ cZ qh S_h T_h U_h)) rfl rfl rfl ?_
      obtain ⟨ht, hf⟩ := h
      refine k_if_eq C dX5_isAnyTooHeavy_13 (by rcases hb10 with rfl | rfl <;> decide) 26 16 (by decide) rfl (fun hc13 => ?_) (fun hc13 => ?_)
      · have h := ht hc13; clear ht hf
        refine k_iinc (j := 1) C dX5_isAnyTooHeavy_26 rfl (by decide) [(1, .int (iI (x1 + 1))), (0, .ref (qh 0))] rfl 29 rfl ?_
        refine k_goto C dX5_isAnyTooHeavy_29 2 (by decide) ?_
        refine k_lv C [1, 0] [(0, .ref (qh 0)), (1, .int (iI (x1 + 1)))] rfl ?_
        exact ih (x1 + 1) h hK_24 hK_32
      · have h := hf hc13; clear ht hf
        refine k_aload_n C dX5_isAnyTooHeavy_16 0 rfl rfl 17 rfl ?_
        refine k_iload_n C dX5_isAnyTooHeavy_17 1 rfl rfl 18 rfl ?_
        have hM := c_X5_isTooHeavyOn (l := l) (D := D) (cI := cI) (cJ := cJ) (cZ := cZ) qh S_h T_h U_h x1 _ h
        refine k_callV C dX5_isAnyTooHeavy_18 hM gX5_isAnyTooHeavy_X5_isTooHeavyOn rfl sg_X5_isTooHeavyOn 5 rfl rfl rfl (Nat.le_of_ble_eq_true rfl) ⟨⟨rfl, rfl⟩, by decide, by decide⟩ ⟨Nat.le_refl 0, Nat.le_refl 0⟩ [0, 1, 2, 3, 4, 5, 6, 7, 8] [] rfl rfl rfl rfl (by decide) 0 0 ⟨rfl, rfl⟩ 21 rfl (fun v w1 hq18 => ?_)
        obtain ⟨r18, rfl, rfl, hb18, h⟩ := hq18
        refine k_perm C [0, 1, 2, 3, 4, 5, 6, 7, 8] [.int (iI r18)] ((wdW cI cJ cZ qh S_h T_h U_h)) rfl rfl rfl ?_
        obtain ⟨ht, hf⟩ := h
        refine k_if_eq C dX5_isAnyTooHeavy_21 (by rcases hb18 with rfl | rfl <;> decide) 26 24 (by decide) rfl (fun hc21 => ?_) (fun hc21 => ?_)
        · have h := ht hc21; clear ht hf
          refine k_iinc (j := 1) C dX5_isAnyTooHeavy_26 rfl (by decide) [(1, .int (iI (x1 + 1))), (0, .ref (qh 0))] rfl 29 rfl ?_
          refine k_goto C dX5_isAnyTooHeavy_29 2 (by decide) ?_
          refine k_lv C [1, 0] [(0, .ref (qh 0)), (1, .int (iI (x1 + 1)))] rfl ?_
          exact ih (x1 + 1) h hK_24 hK_32
        · have h := hf hc21; clear ht hf
          refine k_lv C [] [] rfl ?_
          exact hK_24 () h
set_option maxHeartbeats 4000000 in
set_option maxRecDepth 20000 in
theorem c_X5_isAnyTooHeavy {l : Launch} {D : va_G} {cI cJ cZ : ClassId} (qh : Nat → Nat) (S_h : gWS) (T_h : gWT) (U_h : gWU) (Q : Int → Prop) (h : wp_X5_isAnyTooHeavy S_h T_h U_h Q) : KM l D (kT cI cJ cZ) 0 0 yX5_isAnyTooHeavy wsX5_isAnyTooHeavy rm_X5_isAnyTooHeavy [.ref (qh 0)] ((wdW cI cJ cZ qh S_h T_h U_h)) (rp_X5_isAnyTooHeavy cI cJ cZ qh S_h T_h U_h Q) := by
  refine KM_intro (lv := [(0, .ref (qh 0))]) false rfl (by decide) (Nat.le_of_ble_eq_true rfl) rfl (fun h => absurd h (by decide)) (fun v ws hq => by obtain ⟨r, rfl, rfl, hb, _⟩ := hq; exact Or.inr (Or.inr (Or.inl ⟨rfl, by rcases hb with rfl | rfl; exact Or.inl rfl; exact Or.inr rfl⟩))) (fun A K C => ?_)
  refine k_iconst C dX5_isAnyTooHeavy_0 1 rfl ?_
  refine k_istore_n C dX5_isAnyTooHeavy_1 rfl (by decide) [(1, .int (iI 0)), (0, .ref (qh 0))] rfl 2 rfl ?_
  refine k_lv C [1, 0] [(0, .ref (qh 0)), (1, .int (iI 0))] rfl ?_
  obtain ⟨m2, h⟩ := h
  refine w_X5_isAnyTooHeavy_2 C m2 0 h (fun _ h => ?_) (fun _ h => ?_)
  · refine k_iconst C dX5_isAnyTooHeavy_24 25 rfl ?_
    exact k_iret C dX5_isAnyTooHeavy_25 ⟨1, rfl, rfl, (by decide), h⟩
  · refine k_iconst C dX5_isAnyTooHeavy_32 33 rfl ?_
    exact k_iret C dX5_isAnyTooHeavy_33 ⟨0, rfl, rfl, (by decide), h⟩

/-! X5_cellAt -/
abbrev rm_X5_cellAt : Room := { frames := 0, cells := 0, slots := 0, locals := 0 }
theorem sg_X5_cellAt : yX5_cellAt.cls ≠ "java/lang/invoke/MethodHandle" ∧ yX5_cellAt.cls ≠ "java/lang/invoke/VarHandle" ∧ (parseMethodDescriptor yX5_cellAt.desc).map (fun d => d.parameters.length) = some 2 := by decide +kernel
def rp_X5_cellAt (cI cJ cZ : ClassId) (Q : Int → Prop) : Option Value → va_W → Prop := fun v w1 => ∃ (r : Int), v = some (.int (iI r)) ∧ w1 = ([] : va_W) ∧ Q r
def wp_X5_cellAt (x0 : Int) (x1 : Int) (Q : Int → Prop) : Prop :=
    Q ((x0 * 9) + x1)

set_option maxHeartbeats 4000000 in
set_option maxRecDepth 20000 in
theorem c_X5_cellAt {l : Launch} {D : va_G} {cI cJ cZ : ClassId} (x0 : Int) (x1 : Int) (Q : Int → Prop) (h : wp_X5_cellAt x0 x1 Q) : KM l D (kT cI cJ cZ) 0 0 yX5_cellAt wsX5_cellAt rm_X5_cellAt [.int (iI x0), .int (iI x1)] (([] : va_W)) (rp_X5_cellAt cI cJ cZ Q) := by
  refine KM_intro (lv := [(0, .int (iI x0)), (1, .int (iI x1))]) false rfl (by decide) (Nat.le_of_ble_eq_true rfl) rfl (fun h => absurd h (by decide)) (fun v ws hq => by obtain ⟨r, rfl, rfl, _⟩ := hq; exact Or.inr (Or.inl ⟨rfl, _, rfl⟩)) (fun A K C => ?_)
  refine k_iload_n C dX5_cellAt_0 0 rfl rfl 1 rfl ?_
  refine k_bipush C dX5_cellAt_1 (by decide) 3 rfl ?_
  refine k_imul C dX5_cellAt_3 4 rfl ?_
  refine k_iload_n C dX5_cellAt_4 1 rfl rfl 5 rfl ?_
  refine k_iadd C dX5_cellAt_5 6 rfl ?_
  exact k_iret C dX5_cellAt_6 ⟨(x0 * 9) + x1, rfl, rfl, h⟩

/-! X5_lay -/
abbrev rm_X5_lay : Room := { frames := 1, cells := 0, slots := 0, locals := 22 }
theorem sg_X5_lay : yX5_lay.cls ≠ "java/lang/invoke/MethodHandle" ∧ yX5_lay.cls ≠ "java/lang/invoke/VarHandle" ∧ (parseMethodDescriptor yX5_lay.desc).map (fun d => d.parameters.length) = some 3 := by decide +kernel
theorem hin_X5_lay_5 : ∀ w ∈ wsX50, w ∈ wsX5_lay := fun _ h => List.mem_cons_of_mem _ (List.mem_append_right _ h)
def rp_X5_lay (cI cJ cZ : ClassId) (qh : Nat → Nat) (S_h : gWS) (U_h : gWU) (Q : gWT → Prop) : Option Value → va_W → Prop := fun v w1 => ∃ (T_h : gWT), v = none ∧ w1 = (wdW cI cJ cZ qh S_h T_h U_h) ∧ Q T_h
def wp_X5_lay_43 (K_88 : gWT → Prop)  (Q : gWT → Prop) : Nat → Int → Int → Int → Int → Int → gWT → Prop
  | 0, _, _, _, _, _, _ => False
  | n43 + 1, x1, x2, x3, x4, x5, T_h =>
    rI x5 ∧ rI x4 ∧ ((x4 ≤ x5 → K_88 T_h) ∧ (¬ (x4 ≤ x5) → wp_X5_cellAt x2 (x3 + x5) (fun (r59 : Int) => wp_X6_set 90 T_h.2.2.2.1 r59 (x1 + 1) (fun (f_a0_65 : Int → Int) => wp_X6_set 9 T_h.2.2.2.2 (x3 + x5) (x2 + 1) (fun (f_a0_79 : Int → Int) => wp_X5_lay_43 K_88 Q n43 x1 x2 x3 x4 (x5 + 1) (T_h.1, T_h.2.1, T_h.2.2.1, f_a0_65, f_a0_79))))))
def wp_X5_lay (S_h : gWS) (T_h : gWT) (x1 : Int) (x2 : Int) (x3 : Int) (Q : gWT → Prop) : Prop :=
    wp_X6_set 10 T_h.2.1 x1 x2 (fun (f_a0_18 : Int → Int) => wp_X6_set 10 T_h.2.2.1 x1 x3 (fun (f_a0_27 : Int → Int) => wp_X6_at 10 S_h.2.2.1 x1 (fun (r35 : Int) => ∃ m43, wp_X5_lay_43 (fun (T_h : gWT) => Q T_h) Q m43 x1 x2 x3 r35 0 (ior T_h.1 (ishl 1 x1), f_a0_18, f_a0_27, T_h.2.2.2.1, T_h.2.2.2.2))))
set_option maxHeartbeats 4000000 in
set_option maxRecDepth 20000 in
theorem w_X5_lay_43 {l : Launch} {D : va_G} {cI cJ cZ : ClassId} {A : Nat → Prop} {K : KT} {qh : Nat → Nat} {S_h : gWS} {U_h : gWU} {Q : gWT → Prop} {K_88 : gWT → Prop} (C : KC cX5_lay yX5_lay.cls wsX5_lay rm_X5_lay 6 D (kT cI cJ cZ) A l false (rp_X5_lay cI cJ cZ qh S_h U_h Q) 0 0 K) : ∀ (n : Nat) (x1 : Int) (x2 : Int) (x3 : Int) (x4 : Int) (x5 : Int) (T_h : gWT), wp_X5_lay_43 K_88 Q n x1 x2 x3 x4 x5 T_h → (∀ (T_h : gWT), K_88 T_h → K 0 0 88 [] [] ((wdW cI cJ cZ qh S_h T_h U_h))) → K 0 0 43 [(0, .ref (qh 0)), (1, .int (iI x1)), (2, .int (iI x2)), (3, .int (iI x3)), (4, .int (iI x4)), (5, .int (iI x5))] [] ((wdW cI cJ cZ qh S_h T_h U_h)) := by
  intro n
  induction n with
  | zero => intro x1 x2 x3 x4 x5 T_h h; exact h.elim
  | succ n ih =>
    intro x1 x2 x3 x4 x5 T_h h hK_88
    refine k_iload C dX5_lay_43 5 rfl 45 rfl ?_
    refine k_iload C dX5_lay_45 4 rfl 47 rfl ?_
    obtain ⟨hr47a, hr47b, h⟩ := h
    obtain ⟨ht, hf⟩ := h
    refine k_icmp_ge C dX5_lay_47 ⟨hr47a, hr47b⟩ 88 50 (by decide) rfl (fun hc47 => ?_) (fun hc47 => ?_)
    · have h := ht hc47; clear ht hf
      refine k_lv C [] [] rfl ?_
      exact hK_88 T_h h
    · have h := hf hc47; clear ht hf
      refine k_aload_n C dX5_lay_50 0 rfl rfl 51 rfl ?_
      refine k_get C dX5_lay_51 0 rfl (ci := 5) rfl hin_X5_lay_5 8 (by decide) (List.mem_of_getElem? (i := 5) rfl) rfl 54 rfl ?_
      refine k_iload_n C dX5_lay_54 2 rfl rfl 55 rfl ?_
      refine k_iload_n C dX5_lay_55 3 rfl rfl 56 rfl ?_
      refine k_iload C dX5_lay_56 5 rfl 58 rfl ?_
      refine k_iadd C dX5_lay_58 59 rfl ?_
      have hM := c_X5_cellAt (l := l) (D := D) (cI := cI) (cJ := cJ) (cZ := cZ) x2 (x3 + x5) _ h
      refine k_callS C dX5_lay_59 hM gX5_lay_X5_cellAt rfl sg_X5_cellAt rfl (Nat.le_of_ble_eq_true rfl) ⟨⟨rfl, rfl⟩, by decide, by decide⟩ ⟨Nat.le_refl 0, Nat.le_refl 0⟩ [] [0, 1, 2, 3, 4, 5, 6, 7, 8] rfl rfl rfl rfl (by decide) 0 0 ⟨rfl, rfl⟩ 62 rfl (fun v w1 hq59 => ?_)
      obtain ⟨r59, rfl, rfl, h⟩ := hq59
      refine k_perm C [0, 1, 2, 3, 4, 5, 6, 7, 8] [.int (iI r59), .ref (qh 6)] ((wdW cI cJ cZ qh S_h T_h U_h)) rfl rfl rfl ?_
      refine k_iload_n C dX5_lay_62 1 rfl rfl 63 rfl ?_
      refine k_iconst C dX5_lay_63 64 rfl ?_
      refine k_iadd C dX5_lay_64 65 rfl ?_
      have hM := c_X6_set (l := l) (D := D) (cI := cI) (cJ := cJ) (cZ := cZ) (qh 6) 90 (by decide) T_h.2.2.2.1 r59 (x1 + 1) _ h
      refine k_callNS C dX5_lay_65 hM gX5_lay_X6_set_n55 (List.mem_of_getElem? (i := 33) rfl) (List.mem_of_getElem? (i := 8) rfl) rfl sg_X6_set (List.mem_of_getElem? (i := 7) rfl) rfl (Nat.le_of_ble_eq_true rfl) ⟨⟨rfl, rfl⟩, by decide, by decide⟩ ⟨Nat.le_refl 0, Nat.le_refl 0⟩ [6] [0, 1, 2, 3, 4, 5, 7, 8] rfl rfl rfl rfl (by decide) 0 0 ⟨rfl, rfl⟩ 68 rfl (fun v w1 hq65 => ?_)
      obtain ⟨f_a0_65, rfl, rfl, h⟩ := hq65
      refine k_perm C [0, 1, 2, 3, 4, 5, 8, 6, 7] [] ((wdW cI cJ cZ qh S_h (T_h.1, T_h.2.1, T_h.2.2.1, f_a0_65, T_h.2.2.2.2) U_h)) rfl rfl rfl ?_
      refine k_aload_n C dX5_lay_68 0 rfl rfl 69 rfl ?_
      refine k_get C dX5_lay_69 0 rfl (ci := 5) rfl hin_X5_lay_5 9 (by decide) (List.mem_of_getElem? (i := 6) rfl) rfl 72 rfl ?_
      refine k_iload_n C dX5_lay_72 3 rfl rfl 73 rfl ?_
      refine k_iload C dX5_lay_73 5 rfl 75 rfl ?_
      refine k_iadd C dX5_lay_75 76 rfl ?_
      refine k_iload_n C dX5_lay_76 2 rfl rfl 77 rfl ?_
      refine k_iconst C dX5_lay_77 78 rfl ?_
      refine k_iadd C dX5_lay_78 79 rfl ?_
      have hM := c_X6_set (l := l) (D := D) (cI := cI) (cJ := cJ) (cZ := cZ) (qh 7) 9 (by decide) T_h.2.2.2.2 (x3 + x5) (x2 + 1) _ h
      refine k_callNS C dX5_lay_79 hM gX5_lay_X6_set_n55 (List.mem_of_getElem? (i := 33) rfl) (List.mem_of_getElem? (i := 8) rfl) rfl sg_X6_set (List.mem_of_getElem? (i := 7) rfl) rfl (Nat.le_of_ble_eq_true rfl) ⟨⟨rfl, rfl⟩, by decide, by decide⟩ ⟨Nat.le_refl 0, Nat.le_refl 0⟩ [7] [0, 1, 2, 3, 4, 5, 6, 8] rfl rfl rfl rfl (by decide) 0 0 ⟨rfl, rfl⟩ 82 rfl (fun v w1 hq79 => ?_)
      obtain ⟨f_a0_79, rfl, rfl, h⟩ := hq79
      refine k_perm C [0, 1, 2, 3, 4, 5, 6, 8, 7] [] ((wdW cI cJ cZ qh S_h (T_h.1, T_h.2.1, T_h.2.2.1, f_a0_65, f_a0_79) U_h)) rfl rfl rfl ?_
      refine k_iinc (j := 5) C dX5_lay_82 rfl (by decide) [(5, .int (iI (x5 + 1))), (0, .ref (qh 0)), (1, .int (iI x1)), (2, .int (iI x2)), (3, .int (iI x3)), (4, .int (iI x4))] rfl 85 rfl ?_
      refine k_goto C dX5_lay_85 43 (by decide) ?_
      refine k_lv C [1, 2, 3, 4, 5, 0] [(0, .ref (qh 0)), (1, .int (iI x1)), (2, .int (iI x2)), (3, .int (iI x3)), (4, .int (iI x4)), (5, .int (iI (x5 + 1)))] rfl ?_
      exact ih x1 x2 x3 x4 (x5 + 1) (T_h.1, T_h.2.1, T_h.2.2.1, f_a0_65, f_a0_79) h hK_88
set_option maxHeartbeats 4000000 in
set_option maxRecDepth 20000 in
theorem c_X5_lay {l : Launch} {D : va_G} {cI cJ cZ : ClassId} (qh : Nat → Nat) (S_h : gWS) (T_h : gWT) (U_h : gWU) (x1 : Int) (x2 : Int) (x3 : Int) (Q : gWT → Prop) (h : wp_X5_lay S_h T_h x1 x2 x3 Q) : KM l D (kT cI cJ cZ) 0 0 yX5_lay wsX5_lay rm_X5_lay [.ref (qh 0), .int (iI x1), .int (iI x2), .int (iI x3)] ((wdW cI cJ cZ qh S_h T_h U_h)) (rp_X5_lay cI cJ cZ qh S_h U_h Q) := by
  refine KM_intro (lv := [(0, .ref (qh 0)), (1, .int (iI x1)), (2, .int (iI x2)), (3, .int (iI x3))]) false rfl (by decide) (Nat.le_of_ble_eq_true rfl) rfl (fun h => absurd h (by decide)) (fun v ws hq => by obtain ⟨T_h, rfl, rfl, _⟩ := hq; exact Or.inl ⟨rfl, rfl⟩) (fun A K C => ?_)
  refine k_aload_n C dX5_lay_0 0 rfl rfl 1 rfl ?_
  refine k_dup C dX5_lay_1 rfl 2 rfl ?_
  refine k_get C dX5_lay_2 0 rfl (ci := 5) rfl hin_X5_lay_5 2 (by decide) (List.mem_of_getElem? (i := 1) rfl) rfl 5 rfl ?_
  refine k_iconst C dX5_lay_5 6 rfl ?_
  refine k_iload_n C dX5_lay_6 1 rfl rfl 7 rfl ?_
  refine k_ishl C dX5_lay_7 8 rfl ?_
  refine k_ior C dX5_lay_8 9 rfl ?_
  refine k_put C dX5_lay_9 0 rfl (ci := 5) rfl hin_X5_lay_5 tyX5_ok nmX5 2 (by decide) (List.mem_of_getElem? (i := 1) rfl) rfl rfl rfl (Nat.le_of_ble_eq_true rfl) ((wdW cI cJ cZ qh S_h (ior T_h.1 (ishl 1 x1), T_h.2.1, T_h.2.2.1, T_h.2.2.2.1, T_h.2.2.2.2) U_h)) rfl 12 rfl ?_
  refine k_aload_n C dX5_lay_12 0 rfl rfl 13 rfl ?_
  refine k_get C dX5_lay_13 0 rfl (ci := 5) rfl hin_X5_lay_5 6 (by decide) (List.mem_of_getElem? (i := 2) rfl) rfl 16 rfl ?_
  refine k_iload_n C dX5_lay_16 1 rfl rfl 17 rfl ?_
  refine k_iload_n C dX5_lay_17 2 rfl rfl 18 rfl ?_
  have hM := c_X6_set (l := l) (D := D) (cI := cI) (cJ := cJ) (cZ := cZ) (qh 4) 10 (by decide) T_h.2.1 x1 x2 _ h
  refine k_callNS C dX5_lay_18 hM gX5_lay_X6_set_n55 (List.mem_of_getElem? (i := 33) rfl) (List.mem_of_getElem? (i := 8) rfl) rfl sg_X6_set (List.mem_of_getElem? (i := 7) rfl) rfl (Nat.le_of_ble_eq_true rfl) ⟨⟨rfl, rfl⟩, by decide, by decide⟩ ⟨Nat.le_refl 0, Nat.le_refl 0⟩ [4] [0, 1, 2, 3, 5, 6, 7, 8] rfl rfl rfl rfl (by decide) 0 0 ⟨rfl, rfl⟩ 21 rfl (fun v w1 hq18 => ?_)
  obtain ⟨f_a0_18, rfl, rfl, h⟩ := hq18
  refine k_perm C [0, 1, 2, 3, 8, 4, 5, 6, 7] [] ((wdW cI cJ cZ qh S_h (ior T_h.1 (ishl 1 x1), f_a0_18, T_h.2.2.1, T_h.2.2.2.1, T_h.2.2.2.2) U_h)) rfl rfl rfl ?_
  refine k_aload_n C dX5_lay_21 0 rfl rfl 22 rfl ?_
  refine k_get C dX5_lay_22 0 rfl (ci := 5) rfl hin_X5_lay_5 7 (by decide) (List.mem_of_getElem? (i := 3) rfl) rfl 25 rfl ?_
  refine k_iload_n C dX5_lay_25 1 rfl rfl 26 rfl ?_
  refine k_iload_n C dX5_lay_26 3 rfl rfl 27 rfl ?_
  have hM := c_X6_set (l := l) (D := D) (cI := cI) (cJ := cJ) (cZ := cZ) (qh 5) 10 (by decide) T_h.2.2.1 x1 x3 _ h
  refine k_callNS C dX5_lay_27 hM gX5_lay_X6_set_n55 (List.mem_of_getElem? (i := 33) rfl) (List.mem_of_getElem? (i := 8) rfl) rfl sg_X6_set (List.mem_of_getElem? (i := 7) rfl) rfl (Nat.le_of_ble_eq_true rfl) ⟨⟨rfl, rfl⟩, by decide, by decide⟩ ⟨Nat.le_refl 0, Nat.le_refl 0⟩ [5] [0, 1, 2, 3, 4, 6, 7, 8] rfl rfl rfl rfl (by decide) 0 0 ⟨rfl, rfl⟩ 30 rfl (fun v w1 hq27 => ?_)
  obtain ⟨f_a0_27, rfl, rfl, h⟩ := hq27
  refine k_perm C [0, 1, 2, 3, 4, 8, 5, 6, 7] [] ((wdW cI cJ cZ qh S_h (ior T_h.1 (ishl 1 x1), f_a0_18, f_a0_27, T_h.2.2.2.1, T_h.2.2.2.2) U_h)) rfl rfl rfl ?_
  refine k_aload_n C dX5_lay_30 0 rfl rfl 31 rfl ?_
  refine k_get C dX5_lay_31 0 rfl (ci := 5) rfl hin_X5_lay_5 3 (by decide) (List.mem_of_getElem? (i := 4) rfl) rfl 34 rfl ?_
  refine k_iload_n C dX5_lay_34 1 rfl rfl 35 rfl ?_
  have hM := c_X6_at (l := l) (D := D) (cI := cI) (cJ := cJ) (cZ := cZ) (qh 1) 10 (by decide) S_h.2.2.1 x1 _ h
  refine k_callNS C dX5_lay_35 hM gX5_lay_X6_at_n71 (List.mem_of_getElem? (i := 37) rfl) (List.mem_of_getElem? (i := 8) rfl) rfl sg_X6_at (List.mem_of_getElem? (i := 10) rfl) rfl (Nat.le_of_ble_eq_true rfl) ⟨⟨rfl, rfl⟩, by decide, by decide⟩ ⟨Nat.le_refl 0, Nat.le_refl 0⟩ [1] [0, 2, 3, 4, 5, 6, 7, 8] rfl rfl rfl rfl (by decide) 0 0 ⟨rfl, rfl⟩ 38 rfl (fun v w1 hq35 => ?_)
  obtain ⟨r35, rfl, rfl, h⟩ := hq35
  refine k_perm C [0, 8, 1, 2, 3, 4, 5, 6, 7] [.int (iI r35)] ((wdW cI cJ cZ qh S_h (ior T_h.1 (ishl 1 x1), f_a0_18, f_a0_27, T_h.2.2.2.1, T_h.2.2.2.2) U_h)) rfl rfl rfl ?_
  refine k_istore C dX5_lay_38 (by decide) [(4, .int (iI r35)), (0, .ref (qh 0)), (1, .int (iI x1)), (2, .int (iI x2)), (3, .int (iI x3))] rfl 40 rfl ?_
  refine k_iconst C dX5_lay_40 41 rfl ?_
  refine k_istore C dX5_lay_41 (by decide) [(5, .int (iI 0)), (4, .int (iI r35)), (0, .ref (qh 0)), (1, .int (iI x1)), (2, .int (iI x2)), (3, .int (iI x3))] rfl 43 rfl ?_
  refine k_lv C [2, 3, 4, 5, 1, 0] [(0, .ref (qh 0)), (1, .int (iI x1)), (2, .int (iI x2)), (3, .int (iI x3)), (4, .int (iI r35)), (5, .int (iI 0))] rfl ?_
  obtain ⟨m43, h⟩ := h
  refine w_X5_lay_43 C m43 x1 x2 x3 r35 0 (ior T_h.1 (ishl 1 x1), f_a0_18, f_a0_27, T_h.2.2.2.1, T_h.2.2.2.2) h (fun T_h h => ?_)
  · exact k_vret C dX5_lay_88 ⟨T_h, rfl, rfl, h⟩

/-! X5_heightBelow -/
abbrev rm_X5_heightBelow : Room := { frames := 1, cells := 0, slots := 0, locals := 21 }
theorem sg_X5_heightBelow : yX5_heightBelow.cls ≠ "java/lang/invoke/MethodHandle" ∧ yX5_heightBelow.cls ≠ "java/lang/invoke/VarHandle" ∧ (parseMethodDescriptor yX5_heightBelow.desc).map (fun d => d.parameters.length) = some 2 := by decide +kernel
theorem hin_X5_heightBelow_5 : ∀ w ∈ wsX50, w ∈ wsX5_heightBelow := fun _ h => List.mem_cons_of_mem _ (List.mem_append_right _ h)
def rp_X5_heightBelow (cI cJ cZ : ClassId) (qh : Nat → Nat) (S_h : gWS) (T_h : gWT) (U_h : gWU) (Q : Int → Prop) : Option Value → va_W → Prop := fun v w1 => ∃ (r : Int), v = some (.int (iI r)) ∧ w1 = (wdW cI cJ cZ qh S_h T_h U_h) ∧ Q r
def wp_X5_heightBelow_2 (T_h : gWT) (K_23 : Int → Prop) (K_31 : Prop)  (Q : Int → Prop) : Nat → Int → Int → Prop
  | 0, _, _ => False
  | n2 + 1, x2, x3 =>
    rI x3 ∧ ((x3 ≤ 0 → K_31 ) ∧ (¬ (x3 ≤ 0) → wp_X5_cellAt (x3 - 1) x2 (fun (r14 : Int) => wp_X6_at 90 T_h.2.2.2.1 r14 (fun (r17 : Int) => rI r17 ∧ ((r17 = 0 → wp_X5_heightBelow_2 T_h K_23 K_31 Q n2 x2 (x3 + (-1))) ∧ (¬ (r17 = 0) → K_23 x3))))))
def wp_X5_heightBelow (T_h : gWT) (x1 : Int) (x2 : Int) (Q : Int → Prop) : Prop :=
    ∃ m2, wp_X5_heightBelow_2 T_h (fun (x3 : Int) => Q x3) (Q 0) Q m2 x2 x1
set_option maxHeartbeats 4000000 in
set_option maxRecDepth 20000 in
theorem w_X5_heightBelow_2 {l : Launch} {D : va_G} {cI cJ cZ : ClassId} {A : Nat → Prop} {K : KT} {qh : Nat → Nat} {S_h : gWS} {T_h : gWT} {U_h : gWU} {Q : Int → Prop} {K_23 : Int → Prop} {K_31 : Prop} (C : KC cX5_heightBelow yX5_heightBelow.cls wsX5_heightBelow rm_X5_heightBelow 4 D (kT cI cJ cZ) A l false (rp_X5_heightBelow cI cJ cZ qh S_h T_h U_h Q) 0 0 K) : ∀ (n : Nat) (x2 : Int) (x3 : Int), wp_X5_heightBelow_2 T_h K_23 K_31 Q n x2 x3 → (∀ (x3 : Int), K_23 x3 → K 0 0 23 [(3, .int (iI x3))] [] ((wdW cI cJ cZ qh S_h T_h U_h))) → (∀ (_ : Unit), K_31  → K 0 0 31 [] [] ((wdW cI cJ cZ qh S_h T_h U_h))) → K 0 0 2 [(0, .ref (qh 0)), (2, .int (iI x2)), (3, .int (iI x3))] [] ((wdW cI cJ cZ qh S_h T_h U_h)) := by
  intro n
  induction n with
  | zero => intro x2 x3 h; exact h.elim
  | succ n ih =>
    intro x2 x3 h hK_23 hK_31
    refine k_iload_n C dX5_heightBelow_2 2 rfl rfl 3 rfl ?_
    obtain ⟨hr3a, h⟩ := h
    obtain ⟨ht, hf⟩ := h
    refine k_if_le C dX5_heightBelow_3 hr3a 31 6 (by decide) rfl (fun hc3 => ?_) (fun hc3 => ?_)
    · have h := ht hc3; clear ht hf
      refine k_lv C [] [] rfl ?_
      exact hK_31 () h
    · have h := hf hc3; clear ht hf
      refine k_aload_n C dX5_heightBelow_6 0 rfl rfl 7 rfl ?_
      refine k_get C dX5_heightBelow_7 0 rfl (ci := 5) rfl hin_X5_heightBelow_5 8 (by decide) (List.mem_of_getElem? (i := 1) rfl) rfl 10 rfl ?_
      refine k_iload_n C dX5_heightBelow_10 2 rfl rfl 11 rfl ?_
      refine k_iconst C dX5_heightBelow_11 12 rfl ?_
      refine k_isub C dX5_heightBelow_12 13 rfl ?_
      refine k_iload_n C dX5_heightBelow_13 1 rfl rfl 14 rfl ?_
      have hM := c_X5_cellAt (l := l) (D := D) (cI := cI) (cJ := cJ) (cZ := cZ) (x3 - 1) x2 _ h
      refine k_callS C dX5_heightBelow_14 hM gX5_heightBelow_X5_cellAt rfl sg_X5_cellAt rfl (Nat.le_of_ble_eq_true rfl) ⟨⟨rfl, rfl⟩, by decide, by decide⟩ ⟨Nat.le_refl 0, Nat.le_refl 0⟩ [] [0, 1, 2, 3, 4, 5, 6, 7, 8] rfl rfl rfl rfl (by decide) 0 0 ⟨rfl, rfl⟩ 17 rfl (fun v w1 hq14 => ?_)
      obtain ⟨r14, rfl, rfl, h⟩ := hq14
      refine k_perm C [0, 1, 2, 3, 4, 5, 6, 7, 8] [.int (iI r14), .ref (qh 6)] ((wdW cI cJ cZ qh S_h T_h U_h)) rfl rfl rfl ?_
      have hM := c_X6_at (l := l) (D := D) (cI := cI) (cJ := cJ) (cZ := cZ) (qh 6) 90 (by decide) T_h.2.2.2.1 r14 _ h
      refine k_callNS C dX5_heightBelow_17 hM gX5_heightBelow_X6_at_n71 (List.mem_of_getElem? (i := 37) rfl) (List.mem_of_getElem? (i := 7) rfl) rfl sg_X6_at (List.mem_of_getElem? (i := 6) rfl) rfl (Nat.le_of_ble_eq_true rfl) ⟨⟨rfl, rfl⟩, by decide, by decide⟩ ⟨Nat.le_refl 0, Nat.le_refl 0⟩ [6] [0, 1, 2, 3, 4, 5, 7, 8] rfl rfl rfl rfl (by decide) 0 0 ⟨rfl, rfl⟩ 20 rfl (fun v w1 hq17 => ?_)
      obtain ⟨r17, rfl, rfl, h⟩ := hq17
      refine k_perm C [0, 1, 2, 3, 4, 5, 8, 6, 7] [.int (iI r17)] ((wdW cI cJ cZ qh S_h T_h U_h)) rfl rfl rfl ?_
      obtain ⟨hr20a, h⟩ := h
      obtain ⟨ht, hf⟩ := h
      refine k_if_eq C dX5_heightBelow_20 hr20a 25 23 (by decide) rfl (fun hc20 => ?_) (fun hc20 => ?_)
      · have h := ht hc20; clear ht hf
        refine k_iinc (j := 2) C dX5_heightBelow_25 rfl (by decide) [(3, .int (iI (x3 + (-1)))), (0, .ref (qh 0)), (2, .int (iI x2))] rfl 28 rfl ?_
        refine k_goto C dX5_heightBelow_28 2 (by decide) ?_
        refine k_lv C [1, 2, 0] [(0, .ref (qh 0)), (2, .int (iI x2)), (3, .int (iI (x3 + (-1))))] rfl ?_
        exact ih x2 (x3 + (-1)) h hK_23 hK_31
      · have h := hf hc20; clear ht hf
        refine k_lv C [2] [(3, .int (iI x3))] rfl ?_
        exact hK_23 x3 h
set_option maxHeartbeats 4000000 in
set_option maxRecDepth 20000 in
theorem c_X5_heightBelow {l : Launch} {D : va_G} {cI cJ cZ : ClassId} (qh : Nat → Nat) (S_h : gWS) (T_h : gWT) (U_h : gWU) (x1 : Int) (x2 : Int) (Q : Int → Prop) (h : wp_X5_heightBelow T_h x1 x2 Q) : KM l D (kT cI cJ cZ) 0 0 yX5_heightBelow wsX5_heightBelow rm_X5_heightBelow [.ref (qh 0), .int (iI x1), .int (iI x2)] ((wdW cI cJ cZ qh S_h T_h U_h)) (rp_X5_heightBelow cI cJ cZ qh S_h T_h U_h Q) := by
  refine KM_intro (lv := [(0, .ref (qh 0)), (1, .int (iI x1)), (2, .int (iI x2))]) false rfl (by decide) (Nat.le_of_ble_eq_true rfl) rfl (fun h => absurd h (by decide)) (fun v ws hq => by obtain ⟨r, rfl, rfl, _⟩ := hq; exact Or.inr (Or.inl ⟨rfl, _, rfl⟩)) (fun A K C => ?_)
  refine k_iload_n C dX5_heightBelow_0 1 rfl rfl 1 rfl ?_
  refine k_istore_n C dX5_heightBelow_1 rfl (by decide) [(3, .int (iI x1)), (0, .ref (qh 0)), (1, .int (iI x1)), (2, .int (iI x2))] rfl 2 rfl ?_
  refine k_lv C [1, 3, 0] [(0, .ref (qh 0)), (2, .int (iI x2)), (3, .int (iI x1))] rfl ?_
  obtain ⟨m2, h⟩ := h
  refine w_X5_heightBelow_2 C m2 x2 x1 h (fun x3 h => ?_) (fun _ h => ?_)
  · refine k_iload_n C dX5_heightBelow_23 0 rfl rfl 24 rfl ?_
    exact k_iret C dX5_heightBelow_24 ⟨x3, rfl, rfl, h⟩
  · refine k_iconst C dX5_heightBelow_31 32 rfl ?_
    exact k_iret C dX5_heightBelow_32 ⟨0, rfl, rfl, h⟩

/-! X5_lift -/
abbrev rm_X5_lift : Room := { frames := 2, cells := 0, slots := 0, locals := 44 }
theorem sg_X5_lift : yX5_lift.cls ≠ "java/lang/invoke/MethodHandle" ∧ yX5_lift.cls ≠ "java/lang/invoke/VarHandle" ∧ (parseMethodDescriptor yX5_lift.desc).map (fun d => d.parameters.length) = some 1 := by decide +kernel
theorem hin_X5_lift_5 : ∀ w ∈ wsX50, w ∈ wsX5_lift := fun _ h => List.mem_cons_of_mem _ (List.mem_append_right _ h)
def rp_X5_lift (cI cJ cZ : ClassId) (qh : Nat → Nat) (S_h : gWS) (U_h : gWU) (Q : gWT → Prop) : Option Value → va_W → Prop := fun v w1 => ∃ (T_h : gWT), v = none ∧ w1 = (wdW cI cJ cZ qh S_h T_h U_h) ∧ Q T_h
def wp_X5_lift_54 (K_113 : gWT → Prop)  (Q : gWT → Prop) : Nat → Int → Int → Int → Int → gWT → Prop
  | 0, _, _, _, _, _ => False
  | n54 + 1, x2, x3, x4, x5, T_h =>
    rI x5 ∧ rI x4 ∧ ((x4 ≤ x5 → K_113 T_h) ∧ (¬ (x4 ≤ x5) → wp_X5_cellAt x2 (x3 + x5) (fun (r70 : Int) => wp_X6_set 90 T_h.2.2.2.1 r70 0 (fun (f_a0_74 : Int → Int) => wp_X6_at 9 T_h.2.2.2.2 (x3 + x5) (fun (r94 : Int) => wp_X5_heightBelow (T_h.1, T_h.2.1, T_h.2.2.1, f_a0_74, T_h.2.2.2.2) r94 (x3 + x5) (fun (r101 : Int) => wp_X6_set 9 T_h.2.2.2.2 (x3 + x5) r101 (fun (f_a0_104 : Int → Int) => wp_X5_lift_54 K_113 Q n54 x2 x3 x4 (x5 + 1) (T_h.1, T_h.2.1, T_h.2.2.1, f_a0_74, f_a0_104))))))))
def wp_X5_lift (S_h : gWS) (T_h : gWT) (x1 : Int) (Q : gWT → Prop) : Prop :=
    wp_X5_isLaid T_h x1 (fun (r2 : Int) => ((¬ r2 = 0 → wp_X6_at 10 T_h.2.1 x1 (fun (r28 : Int) => wp_X6_at 10 T_h.2.2.1 x1 (fun (r37 : Int) => wp_X6_at 10 S_h.2.2.1 x1 (fun (r46 : Int) => ∃ m54, wp_X5_lift_54 (fun (T_h : gWT) => Q T_h) Q m54 r28 r37 r46 0 (iand T_h.1 (ixor (ishl 1 x1) (-1)), T_h.2.1, T_h.2.2.1, T_h.2.2.2.1, T_h.2.2.2.2))))) ∧ (¬ (¬ r2 = 0) → Q T_h)))
set_option maxHeartbeats 4000000 in
set_option maxRecDepth 20000 in
theorem w_X5_lift_54 {l : Launch} {D : va_G} {cI cJ cZ : ClassId} {A : Nat → Prop} {K : KT} {qh : Nat → Nat} {S_h : gWS} {U_h : gWU} {Q : gWT → Prop} {K_113 : gWT → Prop} (C : KC cX5_lift yX5_lift.cls wsX5_lift rm_X5_lift 6 D (kT cI cJ cZ) A l false (rp_X5_lift cI cJ cZ qh S_h U_h Q) 0 0 K) : ∀ (n : Nat) (x2 : Int) (x3 : Int) (x4 : Int) (x5 : Int) (T_h : gWT), wp_X5_lift_54 K_113 Q n x2 x3 x4 x5 T_h → (∀ (T_h : gWT), K_113 T_h → K 0 0 113 [] [] ((wdW cI cJ cZ qh S_h T_h U_h))) → K 0 0 54 [(0, .ref (qh 0)), (2, .int (iI x2)), (3, .int (iI x3)), (4, .int (iI x4)), (5, .int (iI x5))] [] ((wdW cI cJ cZ qh S_h T_h U_h)) := by
  intro n
  induction n with
  | zero => intro x2 x3 x4 x5 T_h h; exact h.elim
  | succ n ih =>
    intro x2 x3 x4 x5 T_h h hK_113
    refine k_iload C dX5_lift_54 4 rfl 56 rfl ?_
    refine k_iload C dX5_lift_56 3 rfl 58 rfl ?_
    obtain ⟨hr58a, hr58b, h⟩ := h
    obtain ⟨ht, hf⟩ := h
    refine k_icmp_ge C dX5_lift_58 ⟨hr58a, hr58b⟩ 113 61 (by decide) rfl (fun hc58 => ?_) (fun hc58 => ?_)
    · have h := ht hc58; clear ht hf
      refine k_lv C [] [] rfl ?_
      exact hK_113 T_h h
    · have h := hf hc58; clear ht hf
      refine k_aload_n C dX5_lift_61 0 rfl rfl 62 rfl ?_
      refine k_get C dX5_lift_62 0 rfl (ci := 5) rfl hin_X5_lift_5 8 (by decide) (List.mem_of_getElem? (i := 5) rfl) rfl 65 rfl ?_
      refine k_iload_n C dX5_lift_65 1 rfl rfl 66 rfl ?_
      refine k_iload_n C dX5_lift_66 2 rfl rfl 67 rfl ?_
      refine k_iload C dX5_lift_67 4 rfl 69 rfl ?_
      refine k_iadd C dX5_lift_69 70 rfl ?_
      have hM := c_X5_cellAt (l := l) (D := D) (cI := cI) (cJ := cJ) (cZ := cZ) x2 (x3 + x5) _ h
      refine k_callS C dX5_lift_70 hM gX5_lift_X5_cellAt rfl sg_X5_cellAt rfl (Nat.le_of_ble_eq_true rfl) ⟨⟨rfl, rfl⟩, by decide, by decide⟩ ⟨Nat.le_refl 0, Nat.le_refl 0⟩ [] [0, 1, 2, 3, 4, 5, 6, 7, 8] rfl rfl rfl rfl (by decide) 0 0 ⟨rfl, rfl⟩ 73 rfl (fun v w1 hq70 => ?_)
      obtain ⟨r70, rfl, rfl, h⟩ := hq70
      refine k_perm C [0, 1, 2, 3, 4, 5, 6, 7, 8] [.int (iI r70), .ref (qh 6)] ((wdW cI cJ cZ qh S_h T_h U_h)) rfl rfl rfl ?_
      refine k_iconst C dX5_lift_73 74 rfl ?_
      have hM := c_X6_set (l := l) (D := D) (cI := cI) (cJ := cJ) (cZ := cZ) (qh 6) 90 (by decide) T_h.2.2.2.1 r70 0 _ h
      refine k_callNS C dX5_lift_74 hM gX5_lift_X6_set_n55 (List.mem_of_getElem? (i := 33) rfl) (List.mem_of_getElem? (i := 13) rfl) rfl sg_X6_set (List.mem_of_getElem? (i := 20) rfl) rfl (Nat.le_of_ble_eq_true rfl) ⟨⟨rfl, rfl⟩, by decide, by decide⟩ ⟨Nat.le_refl 0, Nat.le_refl 0⟩ [6] [0, 1, 2, 3, 4, 5, 7, 8] rfl rfl rfl rfl (by decide) 0 0 ⟨rfl, rfl⟩ 77 rfl (fun v w1 hq74 => ?_)
      obtain ⟨f_a0_74, rfl, rfl, h⟩ := hq74
      refine k_perm C [0, 1, 2, 3, 4, 5, 8, 6, 7] [] ((wdW cI cJ cZ qh S_h (T_h.1, T_h.2.1, T_h.2.2.1, f_a0_74, T_h.2.2.2.2) U_h)) rfl rfl rfl ?_
      refine k_aload_n C dX5_lift_77 0 rfl rfl 78 rfl ?_
      refine k_get C dX5_lift_78 0 rfl (ci := 5) rfl hin_X5_lift_5 9 (by decide) (List.mem_of_getElem? (i := 6) rfl) rfl 81 rfl ?_
      refine k_iload_n C dX5_lift_81 2 rfl rfl 82 rfl ?_
      refine k_iload C dX5_lift_82 4 rfl 84 rfl ?_
      refine k_iadd C dX5_lift_84 85 rfl ?_
      refine k_aload_n C dX5_lift_85 0 rfl rfl 86 rfl ?_
      refine k_aload_n C dX5_lift_86 0 rfl rfl 87 rfl ?_
      refine k_get C dX5_lift_87 0 rfl (ci := 5) rfl hin_X5_lift_5 9 (by decide) (List.mem_of_getElem? (i := 6) rfl) rfl 90 rfl ?_
      refine k_iload_n C dX5_lift_90 2 rfl rfl 91 rfl ?_
      refine k_iload C dX5_lift_91 4 rfl 93 rfl ?_
      refine k_iadd C dX5_lift_93 94 rfl ?_
      have hM := c_X6_at (l := l) (D := D) (cI := cI) (cJ := cJ) (cZ := cZ) (qh 7) 9 (by decide) T_h.2.2.2.2 (x3 + x5) _ h
      refine k_callNS C dX5_lift_94 hM gX5_lift_X6_at_n71 (List.mem_of_getElem? (i := 37) rfl) (List.mem_of_getElem? (i := 13) rfl) rfl sg_X6_at (List.mem_of_getElem? (i := 15) rfl) rfl (Nat.le_of_ble_eq_true rfl) ⟨⟨rfl, rfl⟩, by decide, by decide⟩ ⟨Nat.le_refl 0, Nat.le_refl 0⟩ [7] [0, 1, 2, 3, 4, 5, 6, 8] rfl rfl rfl rfl (by decide) 0 0 ⟨rfl, rfl⟩ 97 rfl (fun v w1 hq94 => ?_)
      obtain ⟨r94, rfl, rfl, h⟩ := hq94
      refine k_perm C [0, 1, 2, 3, 4, 5, 6, 8, 7] [.int (iI r94), .ref (qh 0), .int (iI (x3 + x5)), .ref (qh 7)] ((wdW cI cJ cZ qh S_h (T_h.1, T_h.2.1, T_h.2.2.1, f_a0_74, T_h.2.2.2.2) U_h)) rfl rfl rfl ?_
      refine k_iload_n C dX5_lift_97 2 rfl rfl 98 rfl ?_
      refine k_iload C dX5_lift_98 4 rfl 100 rfl ?_
      refine k_iadd C dX5_lift_100 101 rfl ?_
      have hM := c_X5_heightBelow (l := l) (D := D) (cI := cI) (cJ := cJ) (cZ := cZ) qh S_h (T_h.1, T_h.2.1, T_h.2.2.1, f_a0_74, T_h.2.2.2.2) U_h r94 (x3 + x5) _ h
      refine k_callV C dX5_lift_101 hM gX5_lift_X5_heightBelow rfl sg_X5_heightBelow 5 rfl rfl rfl (Nat.le_of_ble_eq_true rfl) ⟨⟨rfl, rfl⟩, by decide, by decide⟩ ⟨Nat.le_refl 0, Nat.le_refl 0⟩ [0, 1, 2, 3, 4, 5, 6, 7, 8] [] rfl rfl rfl rfl (by decide) 0 0 ⟨rfl, rfl⟩ 104 rfl (fun v w1 hq101 => ?_)
      obtain ⟨r101, rfl, rfl, h⟩ := hq101
      refine k_perm C [0, 1, 2, 3, 4, 5, 6, 7, 8] [.int (iI r101), .int (iI (x3 + x5)), .ref (qh 7)] ((wdW cI cJ cZ qh S_h (T_h.1, T_h.2.1, T_h.2.2.1, f_a0_74, T_h.2.2.2.2) U_h)) rfl rfl rfl ?_
      have hM := c_X6_set (l := l) (D := D) (cI := cI) (cJ := cJ) (cZ := cZ) (qh 7) 9 (by decide) T_h.2.2.2.2 (x3 + x5) r101 _ h
      refine k_callNS C dX5_lift_104 hM gX5_lift_X6_set_n55 (List.mem_of_getElem? (i := 33) rfl) (List.mem_of_getElem? (i := 13) rfl) rfl sg_X6_set (List.mem_of_getElem? (i := 20) rfl) rfl (Nat.le_of_ble_eq_true rfl) ⟨⟨rfl, rfl⟩, by decide, by decide⟩ ⟨Nat.le_refl 0, Nat.le_refl 0⟩ [7] [0, 1, 2, 3, 4, 5, 6, 8] rfl rfl rfl rfl (by decide) 0 0 ⟨rfl, rfl⟩ 107 rfl (fun v w1 hq104 => ?_)
      obtain ⟨f_a0_104, rfl, rfl, h⟩ := hq104
      refine k_perm C [0, 1, 2, 3, 4, 5, 6, 8, 7] [] ((wdW cI cJ cZ qh S_h (T_h.1, T_h.2.1, T_h.2.2.1, f_a0_74, f_a0_104) U_h)) rfl rfl rfl ?_
      refine k_iinc (j := 4) C dX5_lift_107 rfl (by decide) [(5, .int (iI (x5 + 1))), (0, .ref (qh 0)), (2, .int (iI x2)), (3, .int (iI x3)), (4, .int (iI x4))] rfl 110 rfl ?_
      refine k_goto C dX5_lift_110 54 (by decide) ?_
      refine k_lv C [1, 2, 3, 4, 0] [(0, .ref (qh 0)), (2, .int (iI x2)), (3, .int (iI x3)), (4, .int (iI x4)), (5, .int (iI (x5 + 1)))] rfl ?_
      exact ih x2 x3 x4 (x5 + 1) (T_h.1, T_h.2.1, T_h.2.2.1, f_a0_74, f_a0_104) h hK_113
set_option maxHeartbeats 4000000 in
set_option maxRecDepth 20000 in
theorem c_X5_lift {l : Launch} {D : va_G} {cI cJ cZ : ClassId} (qh : Nat → Nat) (S_h : gWS) (T_h : gWT) (U_h : gWU) (x1 : Int) (Q : gWT → Prop) (h : wp_X5_lift S_h T_h x1 Q) : KM l D (kT cI cJ cZ) 0 0 yX5_lift wsX5_lift rm_X5_lift [.ref (qh 0), .int (iI x1)] ((wdW cI cJ cZ qh S_h T_h U_h)) (rp_X5_lift cI cJ cZ qh S_h U_h Q) := by
  refine KM_intro (lv := [(0, .ref (qh 0)), (1, .int (iI x1))]) false rfl (by decide) (Nat.le_of_ble_eq_true rfl) rfl (fun h => absurd h (by decide)) (fun v ws hq => by obtain ⟨T_h, rfl, rfl, _⟩ := hq; exact Or.inl ⟨rfl, rfl⟩) (fun A K C => ?_)
  refine k_aload_n C dX5_lift_0 0 rfl rfl 1 rfl ?_
  refine k_iload_n C dX5_lift_1 1 rfl rfl 2 rfl ?_
  have hM := c_X5_isLaid (l := l) (D := D) (cI := cI) (cJ := cJ) (cZ := cZ) qh S_h T_h U_h x1 _ h
  refine k_callV C dX5_lift_2 hM gX5_lift_X5_isLaid rfl sg_X5_isLaid 5 rfl rfl rfl (Nat.le_of_ble_eq_true rfl) ⟨⟨rfl, rfl⟩, by decide, by decide⟩ ⟨Nat.le_refl 0, Nat.le_refl 0⟩ [0, 1, 2, 3, 4, 5, 6, 7, 8] [] rfl rfl rfl rfl (by decide) 0 0 ⟨rfl, rfl⟩ 5 rfl (fun v w1 hq2 => ?_)
  obtain ⟨r2, rfl, rfl, hb2, h⟩ := hq2
  refine k_perm C [0, 1, 2, 3, 4, 5, 6, 7, 8] [.int (iI r2)] ((wdW cI cJ cZ qh S_h T_h U_h)) rfl rfl rfl ?_
  obtain ⟨ht, hf⟩ := h
  refine k_if_ne C dX5_lift_5 (by rcases hb2 with rfl | rfl <;> decide) 9 8 (by decide) rfl (fun hc5 => ?_) (fun hc5 => ?_)
  · have h := ht hc5; clear ht hf
    refine k_aload_n C dX5_lift_9 0 rfl rfl 10 rfl ?_
    refine k_dup C dX5_lift_10 rfl 11 rfl ?_
    refine k_get C dX5_lift_11 0 rfl (ci := 5) rfl hin_X5_lift_5 2 (by decide) (List.mem_of_getElem? (i := 1) rfl) rfl 14 rfl ?_
    refine k_iconst C dX5_lift_14 15 rfl ?_
    refine k_iload_n C dX5_lift_15 1 rfl rfl 16 rfl ?_
    refine k_ishl C dX5_lift_16 17 rfl ?_
    refine k_iconst C dX5_lift_17 18 rfl ?_
    refine k_ixor C dX5_lift_18 19 rfl ?_
    refine k_iand C dX5_lift_19 20 rfl ?_
    refine k_put C dX5_lift_20 0 rfl (ci := 5) rfl hin_X5_lift_5 tyX5_ok nmX5 2 (by decide) (List.mem_of_getElem? (i := 1) rfl) rfl rfl rfl (Nat.le_of_ble_eq_true rfl) ((wdW cI cJ cZ qh S_h (iand T_h.1 (ixor (ishl 1 x1) (-1)), T_h.2.1, T_h.2.2.1, T_h.2.2.2.1, T_h.2.2.2.2) U_h)) rfl 23 rfl ?_
    refine k_aload_n C dX5_lift_23 0 rfl rfl 24 rfl ?_
    refine k_get C dX5_lift_24 0 rfl (ci := 5) rfl hin_X5_lift_5 6 (by decide) (List.mem_of_getElem? (i := 2) rfl) rfl 27 rfl ?_
    refine k_iload_n C dX5_lift_27 1 rfl rfl 28 rfl ?_
    have hM := c_X6_at (l := l) (D := D) (cI := cI) (cJ := cJ) (cZ := cZ) (qh 4) 10 (by decide) T_h.2.1 x1 _ h
    refine k_callNS C dX5_lift_28 hM gX5_lift_X6_at_n71 (List.mem_of_getElem? (i := 37) rfl) (List.mem_of_getElem? (i := 13) rfl) rfl sg_X6_at (List.mem_of_getElem? (i := 15) rfl) rfl (Nat.le_of_ble_eq_true rfl) ⟨⟨rfl, rfl⟩, by decide, by decide⟩ ⟨Nat.le_refl 0, Nat.le_refl 0⟩ [4] [0, 1, 2, 3, 5, 6, 7, 8] rfl rfl rfl rfl (by decide) 0 0 ⟨rfl, rfl⟩ 31 rfl (fun v w1 hq28 => ?_)
    obtain ⟨r28, rfl, rfl, h⟩ := hq28
    refine k_perm C [0, 1, 2, 3, 8, 4, 5, 6, 7] [.int (iI r28)] ((wdW cI cJ cZ qh S_h (iand T_h.1 (ixor (ishl 1 x1) (-1)), T_h.2.1, T_h.2.2.1, T_h.2.2.2.1, T_h.2.2.2.2) U_h)) rfl rfl rfl ?_
    refine k_istore_n C dX5_lift_31 rfl (by decide) [(2, .int (iI r28)), (0, .ref (qh 0)), (1, .int (iI x1))] rfl 32 rfl ?_
    refine k_aload_n C dX5_lift_32 1 rfl rfl 33 rfl ?_
    refine k_get C dX5_lift_33 0 rfl (ci := 5) rfl hin_X5_lift_5 7 (by decide) (List.mem_of_getElem? (i := 3) rfl) rfl 36 rfl ?_
    refine k_iload_n C dX5_lift_36 2 rfl rfl 37 rfl ?_
    have hM := c_X6_at (l := l) (D := D) (cI := cI) (cJ := cJ) (cZ := cZ) (qh 5) 10 (by decide) T_h.2.2.1 x1 _ h
    refine k_callNS C dX5_lift_37 hM gX5_lift_X6_at_n71 (List.mem_of_getElem? (i := 37) rfl) (List.mem_of_getElem? (i := 13) rfl) rfl sg_X6_at (List.mem_of_getElem? (i := 15) rfl) rfl (Nat.le_of_ble_eq_true rfl) ⟨⟨rfl, rfl⟩, by decide, by decide⟩ ⟨Nat.le_refl 0, Nat.le_refl 0⟩ [5] [0, 1, 2, 3, 4, 6, 7, 8] rfl rfl rfl rfl (by decide) 0 0 ⟨rfl, rfl⟩ 40 rfl (fun v w1 hq37 => ?_)
    obtain ⟨r37, rfl, rfl, h⟩ := hq37
    refine k_perm C [0, 1, 2, 3, 4, 8, 5, 6, 7] [.int (iI r37)] ((wdW cI cJ cZ qh S_h (iand T_h.1 (ixor (ishl 1 x1) (-1)), T_h.2.1, T_h.2.2.1, T_h.2.2.2.1, T_h.2.2.2.2) U_h)) rfl rfl rfl ?_
    refine k_istore_n C dX5_lift_40 rfl (by decide) [(3, .int (iI r37)), (2, .int (iI r28)), (0, .ref (qh 0)), (1, .int (iI x1))] rfl 41 rfl ?_
    refine k_aload_n C dX5_lift_41 2 rfl rfl 42 rfl ?_
    refine k_get C dX5_lift_42 0 rfl (ci := 5) rfl hin_X5_lift_5 3 (by decide) (List.mem_of_getElem? (i := 4) rfl) rfl 45 rfl ?_
    refine k_iload_n C dX5_lift_45 3 rfl rfl 46 rfl ?_
    have hM := c_X6_at (l := l) (D := D) (cI := cI) (cJ := cJ) (cZ := cZ) (qh 1) 10 (by decide) S_h.2.2.1 x1 _ h
    refine k_callNS C dX5_lift_46 hM gX5_lift_X6_at_n71 (List.mem_of_getElem? (i := 37) rfl) (List.mem_of_getElem? (i := 13) rfl) rfl sg_X6_at (List.mem_of_getElem? (i := 15) rfl) rfl (Nat.le_of_ble_eq_true rfl) ⟨⟨rfl, rfl⟩, by decide, by decide⟩ ⟨Nat.le_refl 0, Nat.le_refl 0⟩ [1] [0, 2, 3, 4, 5, 6, 7, 8] rfl rfl rfl rfl (by decide) 0 0 ⟨rfl, rfl⟩ 49 rfl (fun v w1 hq46 => ?_)
    obtain ⟨r46, rfl, rfl, h⟩ := hq46
    refine k_perm C [0, 8, 1, 2, 3, 4, 5, 6, 7] [.int (iI r46)] ((wdW cI cJ cZ qh S_h (iand T_h.1 (ixor (ishl 1 x1) (-1)), T_h.2.1, T_h.2.2.1, T_h.2.2.2.1, T_h.2.2.2.2) U_h)) rfl rfl rfl ?_
    refine k_istore C dX5_lift_49 (by decide) [(4, .int (iI r46)), (3, .int (iI r37)), (2, .int (iI r28)), (0, .ref (qh 0)), (1, .int (iI x1))] rfl 51 rfl ?_
    refine k_iconst C dX5_lift_51 52 rfl ?_
    refine k_istore C dX5_lift_52 (by decide) [(5, .int (iI 0)), (4, .int (iI r46)), (3, .int (iI r37)), (2, .int (iI r28)), (0, .ref (qh 0)), (1, .int (iI x1))] rfl 54 rfl ?_
    refine k_lv C [4, 3, 2, 1, 0] [(0, .ref (qh 0)), (2, .int (iI r28)), (3, .int (iI r37)), (4, .int (iI r46)), (5, .int (iI 0))] rfl ?_
    obtain ⟨m54, h⟩ := h
    refine w_X5_lift_54 C m54 r28 r37 r46 0 (iand T_h.1 (ixor (ishl 1 x1) (-1)), T_h.2.1, T_h.2.2.1, T_h.2.2.2.1, T_h.2.2.2.2) h (fun T_h h => ?_)
    · exact k_vret C dX5_lift_113 ⟨T_h, rfl, rfl, h⟩
  · have h := hf hc5; clear ht hf
    exact k_vret C dX5_lift_8 ⟨T_h, rfl, rfl, h⟩

/-! X5_rowOnTop -/
abbrev rm_X5_rowOnTop : Room := { frames := 1, cells := 0, slots := 0, locals := 64 }
theorem sg_X5_rowOnTop : yX5_rowOnTop.cls ≠ "java/lang/invoke/MethodHandle" ∧ yX5_rowOnTop.cls ≠ "java/lang/invoke/VarHandle" ∧ (parseMethodDescriptor yX5_rowOnTop.desc).map (fun d => d.parameters.length) = some 2 := by decide +kernel
theorem hin_X5_rowOnTop_5 : ∀ w ∈ wsX50, w ∈ wsX5_rowOnTop := fun _ h => List.mem_cons_of_mem _ (List.mem_append_right _ h)
def rp_X5_rowOnTop (cI cJ cZ : ClassId) (qh : Nat → Nat) (S_h : gWS) (T_h : gWT) (U_h : gWU) (Q : Int → Prop) : Option Value → va_W → Prop := fun v w1 => ∃ (r : Int), v = some (.int (iI r)) ∧ w1 = (wdW cI cJ cZ qh S_h T_h U_h) ∧ Q r
def wp_X5_rowOnTop_5 (T_h : gWT) (K_33 : Int → Prop)  (Q : Int → Prop) : Nat → Int → Int → Int → Int → Prop
  | 0, _, _, _, _ => False
  | n5 + 1, x1, x2, x3, x4 =>
    rI x4 ∧ rI x2 ∧ ((x2 ≤ x4 → K_33 x3) ∧ (¬ (x2 ≤ x4) → wp_X6_at 9 T_h.2.2.2.2 (x1 + x4) (fun (r20 : Int) => rI x3 ∧ rI r20 ∧ wp_X5_rowOnTop_5 T_h K_33 Q n5 x1 x2 (max x3 r20) (x4 + 1))))
def wp_X5_rowOnTop (T_h : gWT) (x1 : Int) (x2 : Int) (Q : Int → Prop) : Prop :=
    ∃ m5, wp_X5_rowOnTop_5 T_h (fun (x3 : Int) => Q x3) Q m5 x1 x2 0 0
set_option maxHeartbeats 4000000 in
set_option maxRecDepth 20000 in
theorem w_X5_rowOnTop_5 {l : Launch} {D : va_G} {cI cJ cZ : ClassId} {A : Nat → Prop} {K : KT} {qh : Nat → Nat} {S_h : gWS} {T_h : gWT} {U_h : gWU} {Q : Int → Prop} {K_33 : Int → Prop} (C : KC cX5_rowOnTop yX5_rowOnTop.cls wsX5_rowOnTop rm_X5_rowOnTop 5 D (kT cI cJ cZ) A l false (rp_X5_rowOnTop cI cJ cZ qh S_h T_h U_h Q) 0 0 K) : ∀ (n : Nat) (x1 : Int) (x2 : Int) (x3 : Int) (x4 : Int), wp_X5_rowOnTop_5 T_h K_33 Q n x1 x2 x3 x4 → (∀ (x3 : Int), K_33 x3 → K 0 0 33 [(3, .int (iI x3))] [] ((wdW cI cJ cZ qh S_h T_h U_h))) → K 0 0 5 [(0, .ref (qh 0)), (1, .int (iI x1)), (2, .int (iI x2)), (3, .int (iI x3)), (4, .int (iI x4))] [] ((wdW cI cJ cZ qh S_h T_h U_h)) := by
  intro n
  induction n with
  | zero => intro x1 x2 x3 x4 h; exact h.elim
  | succ n ih =>
    intro x1 x2 x3 x4 h hK_33
    refine k_iload C dX5_rowOnTop_5 4 rfl 7 rfl ?_
    refine k_iload_n C dX5_rowOnTop_7 2 rfl rfl 8 rfl ?_
    obtain ⟨hr8a, hr8b, h⟩ := h
    obtain ⟨ht, hf⟩ := h
    refine k_icmp_ge C dX5_rowOnTop_8 ⟨hr8a, hr8b⟩ 33 11 (by decide) rfl (fun hc8 => ?_) (fun hc8 => ?_)
    · have h := ht hc8; clear ht hf
      refine k_lv C [3] [(3, .int (iI x3))] rfl ?_
      exact hK_33 x3 h
    · have h := hf hc8; clear ht hf
      refine k_iload_n C dX5_rowOnTop_11 3 rfl rfl 12 rfl ?_
      refine k_aload_n C dX5_rowOnTop_12 0 rfl rfl 13 rfl ?_
      refine k_get C dX5_rowOnTop_13 0 rfl (ci := 5) rfl hin_X5_rowOnTop_5 9 (by decide) (List.mem_of_getElem? (i := 1) rfl) rfl 16 rfl ?_
      refine k_iload_n C dX5_rowOnTop_16 1 rfl rfl 17 rfl ?_
      refine k_iload C dX5_rowOnTop_17 4 rfl 19 rfl ?_
      refine k_iadd C dX5_rowOnTop_19 20 rfl ?_
      have hM := c_X6_at (l := l) (D := D) (cI := cI) (cJ := cJ) (cZ := cZ) (qh 7) 9 (by decide) T_h.2.2.2.2 (x1 + x4) _ h
      refine k_callNS C dX5_rowOnTop_20 hM gX5_rowOnTop_X6_at_n71 (List.mem_of_getElem? (i := 37) rfl) (List.mem_of_getElem? (i := 7) rfl) rfl sg_X6_at (List.mem_of_getElem? (i := 6) rfl) rfl (Nat.le_of_ble_eq_true rfl) ⟨⟨rfl, rfl⟩, by decide, by decide⟩ ⟨Nat.le_refl 0, Nat.le_refl 0⟩ [7] [0, 1, 2, 3, 4, 5, 6, 8] rfl rfl rfl rfl (by decide) 0 0 ⟨rfl, rfl⟩ 23 rfl (fun v w1 hq20 => ?_)
      obtain ⟨r20, rfl, rfl, h⟩ := hq20
      refine k_perm C [0, 1, 2, 3, 4, 5, 6, 8, 7] [.int (iI r20), .int (iI x3)] ((wdW cI cJ cZ qh S_h T_h U_h)) rfl rfl rfl ?_
      obtain ⟨hr23a, hr23b, h⟩ := h
      refine k_mmax C dX5_rowOnTop_23 (List.mem_of_getElem? (i := 2) rfl) (List.mem_of_getElem? (i := 3) rfl) (List.mem_of_getElem? (i := 4) rfl) (List.mem_of_getElem? (i := 5) rfl) (by decide) (Nat.le_of_ble_eq_true rfl) ⟨Nat.zero_le _, Nat.zero_le _⟩ ⟨hr23a, hr23b⟩ 26 rfl ?_
      refine k_istore_n C dX5_rowOnTop_26 rfl (by decide) [(3, .int (iI (max x3 r20))), (0, .ref (qh 0)), (1, .int (iI x1)), (2, .int (iI x2)), (4, .int (iI x4))] rfl 27 rfl ?_
      refine k_iinc (j := 4) C dX5_rowOnTop_27 rfl (by decide) [(4, .int (iI (x4 + 1))), (3, .int (iI (max x3 r20))), (0, .ref (qh 0)), (1, .int (iI x1)), (2, .int (iI x2))] rfl 30 rfl ?_
      refine k_goto C dX5_rowOnTop_30 5 (by decide) ?_
      refine k_lv C [2, 3, 4, 1, 0] [(0, .ref (qh 0)), (1, .int (iI x1)), (2, .int (iI x2)), (3, .int (iI (max x3 r20))), (4, .int (iI (x4 + 1)))] rfl ?_
      exact ih x1 x2 (max x3 r20) (x4 + 1) h hK_33
set_option maxHeartbeats 4000000 in
set_option maxRecDepth 20000 in
theorem c_X5_rowOnTop {l : Launch} {D : va_G} {cI cJ cZ : ClassId} (qh : Nat → Nat) (S_h : gWS) (T_h : gWT) (U_h : gWU) (x1 : Int) (x2 : Int) (Q : Int → Prop) (h : wp_X5_rowOnTop T_h x1 x2 Q) : KM l D (kT cI cJ cZ) 0 0 yX5_rowOnTop wsX5_rowOnTop rm_X5_rowOnTop [.ref (qh 0), .int (iI x1), .int (iI x2)] ((wdW cI cJ cZ qh S_h T_h U_h)) (rp_X5_rowOnTop cI cJ cZ qh S_h T_h U_h Q) := by
  refine KM_intro (lv := [(0, .ref (qh 0)), (1, .int (iI x1)), (2, .int (iI x2))]) false rfl (by decide) (Nat.le_of_ble_eq_true rfl) rfl (fun h => absurd h (by decide)) (fun v ws hq => by obtain ⟨r, rfl, rfl, _⟩ := hq; exact Or.inr (Or.inl ⟨rfl, _, rfl⟩)) (fun A K C => ?_)
  refine k_iconst C dX5_rowOnTop_0 1 rfl ?_
  refine k_istore_n C dX5_rowOnTop_1 rfl (by decide) [(3, .int (iI 0)), (0, .ref (qh 0)), (1, .int (iI x1)), (2, .int (iI x2))] rfl 2 rfl ?_
  refine k_iconst C dX5_rowOnTop_2 3 rfl ?_
  refine k_istore C dX5_rowOnTop_3 (by decide) [(4, .int (iI 0)), (3, .int (iI 0)), (0, .ref (qh 0)), (1, .int (iI x1)), (2, .int (iI x2))] rfl 5 rfl ?_
  refine k_lv C [2, 3, 4, 1, 0] [(0, .ref (qh 0)), (1, .int (iI x1)), (2, .int (iI x2)), (3, .int (iI 0)), (4, .int (iI 0))] rfl ?_
  obtain ⟨m5, h⟩ := h
  refine w_X5_rowOnTop_5 C m5 x1 x2 0 0 h (fun x3 h => ?_)
  · refine k_iload_n C dX5_rowOnTop_33 0 rfl rfl 34 rfl ?_
    exact k_iret C dX5_rowOnTop_34 ⟨x3, rfl, rfl, h⟩

/-! X6_addTo -/
abbrev rm_X6_addTo : Room := { frames := 0, cells := 0, slots := 0, locals := 0 }
theorem sg_X6_addTo : yX6_addTo.cls ≠ "java/lang/invoke/MethodHandle" ∧ yX6_addTo.cls ≠ "java/lang/invoke/VarHandle" ∧ (parseMethodDescriptor yX6_addTo.desc).map (fun d => d.parameters.length) = some 3 := by decide +kernel
def rp_X6_addTo (cI cJ cZ : ClassId) (qa0 : Nat) (N_a0 : Nat) (Q : (Int → Int) → Prop) : Option Value → va_W → Prop := fun v w1 => ∃ (f_a0 : (Int → Int)), v = none ∧ w1 = [(qa0, .inl (cJ, N_a0, .inr (.inl (mL f_a0))))] ∧ Q f_a0
def wp_X6_addTo (n_a0 : Int) (f_a0 : (Int → Int)) (x1 : Int) (x2 : Int) (Q : (Int → Int) → Prop) : Prop :=
    rI x1 ∧ ((x1 < 0 → Q f_a0) ∧ (¬ (x1 < 0) → ((n_a0 ≤ x1 → Q f_a0) ∧ (¬ (n_a0 ≤ x1) → (0 ≤ x1 ∧ x1 < n_a0) ∧ Q (aset f_a0 x1 ((f_a0 x1) + x2))))))

set_option maxHeartbeats 4000000 in
set_option maxRecDepth 20000 in
theorem c_X6_addTo {l : Launch} {D : va_G} {cI cJ cZ : ClassId} (qa0 : Nat) (N_a0 : Nat) (hN_a0 : N_a0 ≤ 2147483647) (f_a0 : (Int → Int)) (x1 : Int) (x2 : Int) (Q : (Int → Int) → Prop) (h : wp_X6_addTo (N_a0 : Int) f_a0 x1 x2 Q) : KM l D (kT cI cJ cZ) 0 0 yX6_addTo wsX6_addTo rm_X6_addTo [.ref qa0, .int (iI x1), .long (lL x2)] ([(qa0, .inl (cJ, N_a0, .inr (.inl (mL f_a0))))]) (rp_X6_addTo cI cJ cZ qa0 N_a0 Q) := by
  refine KM_intro (lv := [(0, .ref qa0), (1, .int (iI x1)), (2, .long (lL x2))]) false rfl (by decide) (Nat.le_of_ble_eq_true rfl) rfl (fun h => absurd h (by decide)) (fun v ws hq => by obtain ⟨f_a0, rfl, rfl, _⟩ := hq; exact Or.inl ⟨rfl, rfl⟩) (fun A K C => ?_)
  refine k_aload_n C dX6_addTo_0 0 rfl rfl 1 rfl ?_
  refine k_ifnull C dX6_addTo_1 4 rfl ?_
  refine k_iload_n C dX6_addTo_4 1 rfl rfl 5 rfl ?_
  obtain ⟨hr5a, h⟩ := h
  obtain ⟨ht, hf⟩ := h
  refine k_if_lt C dX6_addTo_5 hr5a 21 8 (by decide) rfl (fun hc5 => ?_) (fun hc5 => ?_)
  · have h := ht hc5; clear ht hf
    exact k_vret C dX6_addTo_21 ⟨f_a0, rfl, rfl, h⟩
  · have h := hf hc5; clear ht hf
    refine k_iload_n C dX6_addTo_8 1 rfl rfl 9 rfl ?_
    refine k_aload_n C dX6_addTo_9 0 rfl rfl 10 rfl ?_
    refine k_alen C dX6_addTo_10 0 1 rfl rfl 11 rfl ?_
    obtain ⟨ht, hf⟩ := h
    refine k_icmp_ge C dX6_addTo_11 ⟨hr5a, ⟨by omega, by omega⟩⟩ 21 14 (by decide) rfl (fun hc11 => ?_) (fun hc11 => ?_)
    · have h := ht hc11; clear ht hf
      exact k_vret C dX6_addTo_21 ⟨f_a0, rfl, rfl, h⟩
    · have h := hf hc11; clear ht hf
      refine k_aload_n C dX6_addTo_14 0 rfl rfl 15 rfl ?_
      refine k_iload_n C dX6_addTo_15 1 rfl rfl 16 rfl ?_
      refine k_dup2 C dX6_addTo_16 rfl rfl 17 rfl ?_
      obtain ⟨hi17, h⟩ := h
      refine k_laload C dX6_addTo_17 0 1 rfl rfl hN_a0 hi17 18 rfl ?_
      refine k_lload_n C dX6_addTo_18 2 rfl rfl 19 rfl ?_
      refine k_ladd C dX6_addTo_19 20 rfl ?_
      refine k_lastore C dX6_addTo_20 0 1 rfl rfl hN_a0 hi17 ([(qa0, .inl (cJ, N_a0, .inr (.inl (mL (aset f_a0 x1 ((f_a0 x1) + x2))))))]) rfl 21 rfl ?_
      exact k_vret C dX6_addTo_21 ⟨(aset f_a0 x1 ((f_a0 x1) + x2)), rfl, rfl, h⟩

/-! X5_passDown -/
abbrev rm_X5_passDown : Room := { frames := 1, cells := 0, slots := 0, locals := 27 }
theorem sg_X5_passDown : yX5_passDown.cls ≠ "java/lang/invoke/MethodHandle" ∧ yX5_passDown.cls ≠ "java/lang/invoke/VarHandle" ∧ (parseMethodDescriptor yX5_passDown.desc).map (fun d => d.parameters.length) = some 2 := by decide +kernel
theorem hin_X5_passDown_5 : ∀ w ∈ wsX50, w ∈ wsX5_passDown := fun _ h => List.mem_cons_of_mem _ (List.mem_append_right _ h)
def rp_X5_passDown (cI cJ cZ : ClassId) (qh : Nat → Nat) (S_h : gWS) (T_h : gWT) (Q : gWU → Prop) : Option Value → va_W → Prop := fun v w1 => ∃ (U_h : gWU), v = none ∧ w1 = (wdW cI cJ cZ qh S_h T_h U_h) ∧ Q U_h
def wp_X5_passDown_66 (T_h : gWT) (K_107 : gWU → Prop)  (Q : gWU → Prop) : Nat → Int → Int → Int → Int → Int → gWU → Prop
  | 0, _, _, _, _, _, _ => False
  | n66 + 1, x2, x3, x4, x6, x8, U_h =>
    rI x8 ∧ rI x3 ∧ ((x3 ≤ x8 → K_107 U_h) ∧ (¬ (x3 ≤ x8) → wp_X5_cellAt (x2 - 1) (x4 + x8) (fun (r88 : Int) => wp_X6_at 90 T_h.2.2.2.1 r88 (fun (r91 : Int) => wp_X6_addTo 10 U_h (r91 - 1) x6 (fun (f_a0_98 : Int → Int) => wp_X5_passDown_66 T_h K_107 Q n66 x2 x3 x4 x6 (x8 + 1) f_a0_98)))))
def wp_X5_passDown (S_h : gWS) (T_h : gWT) (U_h : gWU) (x1 : Int) (x2 : Int) (Q : gWU → Prop) : Prop :=
    wp_X6_at 10 S_h.2.2.1 x1 (fun (r5 : Int) => wp_X6_at 10 T_h.2.2.1 x1 (fun (r14 : Int) => wp_X5_heldCells T_h x2 r14 r5 (fun (r24 : Int) => rI r24 ∧ ((0 < r24 → wp_X6_at 10 S_h.2.2.2.1 x1 (fun (r40 : Int) => rI r40 ∧ wp_X6_at_ 10 U_h x1 (fun (r53 : Int) => ¬ r24 = 0 ∧ rL ((r40 * 10077696) + r53) ∧ rL r24 ∧ ∃ m66, wp_X5_passDown_66 T_h (fun (U_h : gWU) => Q U_h) Q m66 x2 r5 r14 (((r40 * 10077696) + r53).tdiv r24) 0 U_h))) ∧ (¬ (0 < r24) → Q U_h)))))
set_option maxHeartbeats 4000000 in
set_option maxRecDepth 20000 in
theorem w_X5_passDown_66 {l : Launch} {D : va_G} {cI cJ cZ : ClassId} {A : Nat → Prop} {K : KT} {qh : Nat → Nat} {S_h : gWS} {T_h : gWT} {Q : gWU → Prop} {K_107 : gWU → Prop} (C : KC cX5_passDown yX5_passDown.cls wsX5_passDown rm_X5_passDown 9 D (kT cI cJ cZ) A l false (rp_X5_passDown cI cJ cZ qh S_h T_h Q) 0 0 K) : ∀ (n : Nat) (x2 : Int) (x3 : Int) (x4 : Int) (x6 : Int) (x8 : Int) (U_h : gWU), wp_X5_passDown_66 T_h K_107 Q n x2 x3 x4 x6 x8 U_h → (∀ (U_h : gWU), K_107 U_h → K 0 0 107 [] [] ((wdW cI cJ cZ qh S_h T_h U_h))) → K 0 0 66 [(0, .ref (qh 0)), (2, .int (iI x2)), (3, .int (iI x3)), (4, .int (iI x4)), (6, .long (lL x6)), (8, .int (iI x8))] [] ((wdW cI cJ cZ qh S_h T_h U_h)) := by
  intro n
  induction n with
  | zero => intro x2 x3 x4 x6 x8 U_h h; exact h.elim
  | succ n ih =>
    intro x2 x3 x4 x6 x8 U_h h hK_107
    refine k_iload C dX5_passDown_66 5 rfl 68 rfl ?_
    refine k_iload_n C dX5_passDown_68 2 rfl rfl 69 rfl ?_
    obtain ⟨hr69a, hr69b, h⟩ := h
    obtain ⟨ht, hf⟩ := h
    refine k_icmp_ge C dX5_passDown_69 ⟨hr69a, hr69b⟩ 107 72 (by decide) rfl (fun hc69 => ?_) (fun hc69 => ?_)
    · have h := ht hc69; clear ht hf
      refine k_lv C [] [] rfl ?_
      exact hK_107 U_h h
    · have h := hf hc69; clear ht hf
      refine k_aload_n C dX5_passDown_72 0 rfl rfl 73 rfl ?_
      refine k_get C dX5_passDown_73 0 rfl (ci := 5) rfl hin_X5_passDown_5 10 (by decide) (List.mem_of_getElem? (i := 5) rfl) rfl 76 rfl ?_
      refine k_aload_n C dX5_passDown_76 0 rfl rfl 77 rfl ?_
      refine k_get C dX5_passDown_77 0 rfl (ci := 5) rfl hin_X5_passDown_5 8 (by decide) (List.mem_of_getElem? (i := 6) rfl) rfl 80 rfl ?_
      refine k_iload_n C dX5_passDown_80 1 rfl rfl 81 rfl ?_
      refine k_iconst C dX5_passDown_81 82 rfl ?_
      refine k_isub C dX5_passDown_82 83 rfl ?_
      refine k_iload C dX5_passDown_83 3 rfl 85 rfl ?_
      refine k_iload C dX5_passDown_85 5 rfl 87 rfl ?_
      refine k_iadd C dX5_passDown_87 88 rfl ?_
      have hM := c_X5_cellAt (l := l) (D := D) (cI := cI) (cJ := cJ) (cZ := cZ) (x2 - 1) (x4 + x8) _ h
      refine k_callS C dX5_passDown_88 hM gX5_passDown_X5_cellAt rfl sg_X5_cellAt rfl (Nat.le_of_ble_eq_true rfl) ⟨⟨rfl, rfl⟩, by decide, by decide⟩ ⟨Nat.le_refl 0, Nat.le_refl 0⟩ [] [0, 1, 2, 3, 4, 5, 6, 7, 8] rfl rfl rfl rfl (by decide) 0 0 ⟨rfl, rfl⟩ 91 rfl (fun v w1 hq88 => ?_)
      obtain ⟨r88, rfl, rfl, h⟩ := hq88
      refine k_perm C [0, 1, 2, 3, 4, 5, 6, 7, 8] [.int (iI r88), .ref (qh 6), .ref (qh 8)] ((wdW cI cJ cZ qh S_h T_h U_h)) rfl rfl rfl ?_
      have hM := c_X6_at (l := l) (D := D) (cI := cI) (cJ := cJ) (cZ := cZ) (qh 6) 90 (by decide) T_h.2.2.2.1 r88 _ h
      refine k_callNS C dX5_passDown_91 hM gX5_passDown_X6_at_n71 (List.mem_of_getElem? (i := 37) rfl) (List.mem_of_getElem? (i := 8) rfl) rfl sg_X6_at (List.mem_of_getElem? (i := 7) rfl) rfl (Nat.le_of_ble_eq_true rfl) ⟨⟨rfl, rfl⟩, by decide, by decide⟩ ⟨Nat.le_refl 0, Nat.le_refl 0⟩ [6] [0, 1, 2, 3, 4, 5, 7, 8] rfl rfl rfl rfl (by decide) 0 0 ⟨rfl, rfl⟩ 94 rfl (fun v w1 hq91 => ?_)
      obtain ⟨r91, rfl, rfl, h⟩ := hq91
      refine k_perm C [0, 1, 2, 3, 4, 5, 8, 6, 7] [.int (iI r91), .ref (qh 8)] ((wdW cI cJ cZ qh S_h T_h U_h)) rfl rfl rfl ?_
      refine k_iconst C dX5_passDown_94 95 rfl ?_
      refine k_isub C dX5_passDown_95 96 rfl ?_
      refine k_lload C dX5_passDown_96 4 rfl 98 rfl ?_
      have hM := c_X6_addTo (l := l) (D := D) (cI := cI) (cJ := cJ) (cZ := cZ) (qh 8) 10 (by decide) U_h (r91 - 1) x6 _ h
      refine k_callNS C dX5_passDown_98 hM gX5_passDown_X6_addTo_n130 (List.mem_of_getElem? (i := 40) rfl) (List.mem_of_getElem? (i := 8) rfl) rfl sg_X6_addTo (List.mem_of_getElem? (i := 20) rfl) rfl (Nat.le_of_ble_eq_true rfl) ⟨⟨rfl, rfl⟩, by decide, by decide⟩ ⟨Nat.le_refl 0, Nat.le_refl 0⟩ [8] [0, 1, 2, 3, 4, 5, 6, 7] rfl rfl rfl rfl (by decide) 0 0 ⟨rfl, rfl⟩ 101 rfl (fun v w1 hq98 => ?_)
      obtain ⟨f_a0_98, rfl, rfl, h⟩ := hq98
      refine k_perm C [0, 1, 2, 3, 4, 5, 6, 7, 8] [] ((wdW cI cJ cZ qh S_h T_h f_a0_98)) rfl rfl rfl ?_
      refine k_iinc (j := 5) C dX5_passDown_101 rfl (by decide) [(8, .int (iI (x8 + 1))), (0, .ref (qh 0)), (2, .int (iI x2)), (3, .int (iI x3)), (4, .int (iI x4)), (6, .long (lL x6))] rfl 104 rfl ?_
      refine k_goto C dX5_passDown_104 66 (by decide) ?_
      refine k_lv C [1, 2, 3, 4, 5, 0] [(0, .ref (qh 0)), (2, .int (iI x2)), (3, .int (iI x3)), (4, .int (iI x4)), (6, .long (lL x6)), (8, .int (iI (x8 + 1)))] rfl ?_
      exact ih x2 x3 x4 x6 (x8 + 1) f_a0_98 h hK_107
set_option maxHeartbeats 4000000 in
set_option maxRecDepth 20000 in
theorem c_X5_passDown {l : Launch} {D : va_G} {cI cJ cZ : ClassId} (qh : Nat → Nat) (S_h : gWS) (T_h : gWT) (U_h : gWU) (x1 : Int) (x2 : Int) (Q : gWU → Prop) (h : wp_X5_passDown S_h T_h U_h x1 x2 Q) : KM l D (kT cI cJ cZ) 0 0 yX5_passDown wsX5_passDown rm_X5_passDown [.ref (qh 0), .int (iI x1), .int (iI x2)] ((wdW cI cJ cZ qh S_h T_h U_h)) (rp_X5_passDown cI cJ cZ qh S_h T_h Q) := by
  refine KM_intro (lv := [(0, .ref (qh 0)), (1, .int (iI x1)), (2, .int (iI x2))]) false rfl (by decide) (Nat.le_of_ble_eq_true rfl) rfl (fun h => absurd h (by decide)) (fun v ws hq => by obtain ⟨U_h, rfl, rfl, _⟩ := hq; exact Or.inl ⟨rfl, rfl⟩) (fun A K C => ?_)
  refine k_aload_n C dX5_passDown_0 0 rfl rfl 1 rfl ?_
  refine k_get C dX5_passDown_1 0 rfl (ci := 5) rfl hin_X5_passDown_5 3 (by decide) (List.mem_of_getElem? (i := 1) rfl) rfl 4 rfl ?_
  refine k_iload_n C dX5_passDown_4 1 rfl rfl 5 rfl ?_
  have hM := c_X6_at (l := l) (D := D) (cI := cI) (cJ := cJ) (cZ := cZ) (qh 1) 10 (by decide) S_h.2.2.1 x1 _ h
  refine k_callNS C dX5_passDown_5 hM gX5_passDown_X6_at_n71 (List.mem_of_getElem? (i := 37) rfl) (List.mem_of_getElem? (i := 8) rfl) rfl sg_X6_at (List.mem_of_getElem? (i := 7) rfl) rfl (Nat.le_of_ble_eq_true rfl) ⟨⟨rfl, rfl⟩, by decide, by decide⟩ ⟨Nat.le_refl 0, Nat.le_refl 0⟩ [1] [0, 2, 3, 4, 5, 6, 7, 8] rfl rfl rfl rfl (by decide) 0 0 ⟨rfl, rfl⟩ 8 rfl (fun v w1 hq5 => ?_)
  obtain ⟨r5, rfl, rfl, h⟩ := hq5
  refine k_perm C [0, 8, 1, 2, 3, 4, 5, 6, 7] [.int (iI r5)] ((wdW cI cJ cZ qh S_h T_h U_h)) rfl rfl rfl ?_
  refine k_istore_n C dX5_passDown_8 rfl (by decide) [(3, .int (iI r5)), (0, .ref (qh 0)), (1, .int (iI x1)), (2, .int (iI x2))] rfl 9 rfl ?_
  refine k_aload_n C dX5_passDown_9 1 rfl rfl 10 rfl ?_
  refine k_get C dX5_passDown_10 0 rfl (ci := 5) rfl hin_X5_passDown_5 7 (by decide) (List.mem_of_getElem? (i := 2) rfl) rfl 13 rfl ?_
  refine k_iload_n C dX5_passDown_13 2 rfl rfl 14 rfl ?_
  have hM := c_X6_at (l := l) (D := D) (cI := cI) (cJ := cJ) (cZ := cZ) (qh 5) 10 (by decide) T_h.2.2.1 x1 _ h
  refine k_callNS C dX5_passDown_14 hM gX5_passDown_X6_at_n71 (List.mem_of_getElem? (i := 37) rfl) (List.mem_of_getElem? (i := 8) rfl) rfl sg_X6_at (List.mem_of_getElem? (i := 7) rfl) rfl (Nat.le_of_ble_eq_true rfl) ⟨⟨rfl, rfl⟩, by decide, by decide⟩ ⟨Nat.le_refl 0, Nat.le_refl 0⟩ [5] [0, 1, 2, 3, 4, 6, 7, 8] rfl rfl rfl rfl (by decide) 0 0 ⟨rfl, rfl⟩ 17 rfl (fun v w1 hq14 => ?_)
  obtain ⟨r14, rfl, rfl, h⟩ := hq14
  refine k_perm C [0, 1, 2, 3, 4, 8, 5, 6, 7] [.int (iI r14)] ((wdW cI cJ cZ qh S_h T_h U_h)) rfl rfl rfl ?_
  refine k_istore C dX5_passDown_17 (by decide) [(4, .int (iI r14)), (3, .int (iI r5)), (0, .ref (qh 0)), (1, .int (iI x1)), (2, .int (iI x2))] rfl 19 rfl ?_
  refine k_aload_n C dX5_passDown_19 2 rfl rfl 20 rfl ?_
  refine k_iload_n C dX5_passDown_20 4 rfl rfl 21 rfl ?_
  refine k_iload C dX5_passDown_21 0 rfl 23 rfl ?_
  refine k_iload_n C dX5_passDown_23 1 rfl rfl 24 rfl ?_
  have hM := c_X5_heldCells (l := l) (D := D) (cI := cI) (cJ := cJ) (cZ := cZ) qh S_h T_h U_h x2 r14 r5 _ h
  refine k_callV C dX5_passDown_24 hM gX5_passDown_X5_heldCells rfl sg_X5_heldCells 5 rfl rfl rfl (Nat.le_of_ble_eq_true rfl) ⟨⟨rfl, rfl⟩, by decide, by decide⟩ ⟨Nat.le_refl 0, Nat.le_refl 0⟩ [0, 1, 2, 3, 4, 5, 6, 7, 8] [] rfl rfl rfl rfl (by decide) 0 0 ⟨rfl, rfl⟩ 27 rfl (fun v w1 hq24 => ?_)
  obtain ⟨r24, rfl, rfl, h⟩ := hq24
  refine k_perm C [0, 1, 2, 3, 4, 5, 6, 7, 8] [.int (iI r24)] ((wdW cI cJ cZ qh S_h T_h U_h)) rfl rfl rfl ?_
  refine k_istore C dX5_passDown_27 (by decide) [(5, .int (iI r24)), (4, .int (iI r14)), (3, .int (iI r5)), (0, .ref (qh 0)), (1, .int (iI x1)), (2, .int (iI x2))] rfl 29 rfl ?_
  refine k_iload C dX5_passDown_29 0 rfl 31 rfl ?_
  obtain ⟨hr31a, h⟩ := h
  obtain ⟨ht, hf⟩ := h
  refine k_if_gt C dX5_passDown_31 hr31a 35 34 (by decide) rfl (fun hc31 => ?_) (fun hc31 => ?_)
  · have h := ht hc31; clear ht hf
    refine k_aload_n C dX5_passDown_35 3 rfl rfl 36 rfl ?_
    refine k_get C dX5_passDown_36 0 rfl (ci := 5) rfl hin_X5_passDown_5 4 (by decide) (List.mem_of_getElem? (i := 3) rfl) rfl 39 rfl ?_
    refine k_iload_n C dX5_passDown_39 4 rfl rfl 40 rfl ?_
    have hM := c_X6_at (l := l) (D := D) (cI := cI) (cJ := cJ) (cZ := cZ) (qh 2) 10 (by decide) S_h.2.2.2.1 x1 _ h
    refine k_callNS C dX5_passDown_40 hM gX5_passDown_X6_at_n71 (List.mem_of_getElem? (i := 37) rfl) (List.mem_of_getElem? (i := 8) rfl) rfl sg_X6_at (List.mem_of_getElem? (i := 7) rfl) rfl (Nat.le_of_ble_eq_true rfl) ⟨⟨rfl, rfl⟩, by decide, by decide⟩ ⟨Nat.le_refl 0, Nat.le_refl 0⟩ [2] [0, 1, 3, 4, 5, 6, 7, 8] rfl rfl rfl rfl (by decide) 0 0 ⟨rfl, rfl⟩ 43 rfl (fun v w1 hq40 => ?_)
    obtain ⟨r40, rfl, rfl, h⟩ := hq40
    refine k_perm C [0, 1, 8, 2, 3, 4, 5, 6, 7] [.int (iI r40)] ((wdW cI cJ cZ qh S_h T_h U_h)) rfl rfl rfl ?_
    obtain ⟨hr43a, h⟩ := h
    refine k_i2l C dX5_passDown_43 hr43a 44 rfl ?_
    refine k_ldc2 (v := 10077696) C dX5_passDown_44 (List.mem_of_getElem? (i := 4) rfl) (by decide) 47 rfl ?_
    refine k_lmul C dX5_passDown_47 48 rfl ?_
    refine k_aload_n C dX5_passDown_48 3 rfl rfl 49 rfl ?_
    refine k_get C dX5_passDown_49 0 rfl (ci := 5) rfl hin_X5_passDown_5 10 (by decide) (List.mem_of_getElem? (i := 5) rfl) rfl 52 rfl ?_
    refine k_iload_n C dX5_passDown_52 4 rfl rfl 53 rfl ?_
    have hM := c_X6_at_ (l := l) (D := D) (cI := cI) (cJ := cJ) (cZ := cZ) (qh 8) 10 (by decide) U_h x1 _ h
    refine k_callNS C dX5_passDown_53 hM gX5_passDown_X6_at__n127 (List.mem_of_getElem? (i := 39) rfl) (List.mem_of_getElem? (i := 8) rfl) rfl sg_X6_at_ (List.mem_of_getElem? (i := 15) rfl) rfl (Nat.le_of_ble_eq_true rfl) ⟨⟨rfl, rfl⟩, by decide, by decide⟩ ⟨Nat.le_refl 0, Nat.le_refl 0⟩ [8] [0, 1, 2, 3, 4, 5, 6, 7] rfl rfl rfl rfl (by decide) 0 0 ⟨rfl, rfl⟩ 56 rfl (fun v w1 hq53 => ?_)
    obtain ⟨r53, rfl, rfl, h⟩ := hq53
    refine k_perm C [0, 1, 2, 3, 4, 5, 6, 7, 8] [.long (lL r53), .long (lL (r40 * 10077696))] ((wdW cI cJ cZ qh S_h T_h U_h)) rfl rfl rfl ?_
    refine k_ladd C dX5_passDown_56 57 rfl ?_
    refine k_iload C dX5_passDown_57 0 rfl 59 rfl ?_
    refine k_i2l C dX5_passDown_59 hr31a 60 rfl ?_
    obtain ⟨hz60, h⟩ := h
    obtain ⟨hr60a, hr60b, h⟩ := h
    refine k_ldiv C dX5_passDown_60 ⟨hr60a, hr60b, hz60⟩ 61 rfl ?_
    refine k_lstore C dX5_passDown_61 (by decide) [(6, .long (lL (((r40 * 10077696) + r53).tdiv r24))), (5, .int (iI r24)), (4, .int (iI r14)), (3, .int (iI r5)), (0, .ref (qh 0)), (1, .int (iI x1)), (2, .int (iI x2))] rfl 63 rfl ?_
    refine k_iconst C dX5_passDown_63 64 rfl ?_
    refine k_istore C dX5_passDown_64 (by decide) [(8, .int (iI 0)), (6, .long (lL (((r40 * 10077696) + r53).tdiv r24))), (5, .int (iI r24)), (4, .int (iI r14)), (3, .int (iI r5)), (0, .ref (qh 0)), (1, .int (iI x1)), (2, .int (iI x2))] rfl 66 rfl ?_
    refine k_lv C [5, 7, 4, 3, 1, 0] [(0, .ref (qh 0)), (2, .int (iI x2)), (3, .int (iI r5)), (4, .int (iI r14)), (6, .long (lL (((r40 * 10077696) + r53).tdiv r24))), (8, .int (iI 0))] rfl ?_
    obtain ⟨m66, h⟩ := h
    refine w_X5_passDown_66 C m66 x2 r5 r14 (((r40 * 10077696) + r53).tdiv r24) 0 U_h h (fun U_h h => ?_)
    · exact k_vret C dX5_passDown_107 ⟨U_h, rfl, rfl, h⟩
  · have h := hf hc31; clear ht hf
    exact k_vret C dX5_passDown_34 ⟨U_h, rfl, rfl, h⟩

/-! X6_fill_ -/
abbrev rm_X6_fill_ : Room := { frames := 0, cells := 0, slots := 0, locals := 0 }
theorem sg_X6_fill_ : yX6_fill_.cls ≠ "java/lang/invoke/MethodHandle" ∧ yX6_fill_.cls ≠ "java/lang/invoke/VarHandle" ∧ (parseMethodDescriptor yX6_fill_.desc).map (fun d => d.parameters.length) = some 2 := by decide +kernel
def rp_X6_fill_ (cI cJ cZ : ClassId) (qa0 : Nat) (N_a0 : Nat) (Q : (Int → Int) → Prop) : Option Value → va_W → Prop := fun v w1 => ∃ (f_a0 : (Int → Int)), v = none ∧ w1 = [(qa0, .inl (cJ, N_a0, .inr (.inl (mL f_a0))))] ∧ Q f_a0
def wp_X6_fill__7 (n_a0 : Int) (K_23 : (Int → Int) → Prop)  (Q : (Int → Int) → Prop) : Nat → Int → Int → (Int → Int) → Prop
  | 0, _, _, _ => False
  | n7 + 1, x1, x3, f_a0 =>
    rI x3 ∧ ((n_a0 ≤ x3 → K_23 f_a0) ∧ (¬ (n_a0 ≤ x3) → (0 ≤ x3 ∧ x3 < n_a0) ∧ wp_X6_fill__7 n_a0 K_23 Q n7 x1 (x3 + 1) (aset f_a0 x3 x1)))
def wp_X6_fill_ (n_a0 : Int) (f_a0 : (Int → Int)) (x1 : Int) (Q : (Int → Int) → Prop) : Prop :=
    ∃ m7, wp_X6_fill__7 n_a0 (fun (f_a0 : (Int → Int)) => Q f_a0) Q m7 x1 0 f_a0
set_option maxHeartbeats 4000000 in
set_option maxRecDepth 20000 in
theorem w_X6_fill__7 {l : Launch} {D : va_G} {cI cJ cZ : ClassId} {A : Nat → Prop} {K : KT} {qa0 : Nat} {N_a0 : Nat} {Q : (Int → Int) → Prop} {K_23 : (Int → Int) → Prop} (hN_a0 : N_a0 ≤ 2147483647) (C : KC cX6_fill_ yX6_fill_.cls wsX6_fill_ rm_X6_fill_ 4 D (kT cI cJ cZ) A l false (rp_X6_fill_ cI cJ cZ qa0 N_a0 Q) 0 0 K) : ∀ (n : Nat) (x1 : Int) (x3 : Int) (f_a0 : (Int → Int)), wp_X6_fill__7 (N_a0 : Int) K_23 Q n x1 x3 f_a0 → (∀ (f_a0 : (Int → Int)), K_23 f_a0 → K 0 0 23 [] [] ([(qa0, .inl (cJ, N_a0, .inr (.inl (mL f_a0))))])) → K 0 0 7 [(0, .ref qa0), (1, .long (lL x1)), (3, .int (iI x3))] [] ([(qa0, .inl (cJ, N_a0, .inr (.inl (mL f_a0))))]) := by
  intro n
  induction n with
  | zero => intro x1 x3 f_a0 h; exact h.elim
  | succ n ih =>
    intro x1 x3 f_a0 h hK_23
    refine k_iload_n C dX6_fill__7 2 rfl rfl 8 rfl ?_
    refine k_aload_n C dX6_fill__8 0 rfl rfl 9 rfl ?_
    refine k_alen C dX6_fill__9 0 1 rfl rfl 10 rfl ?_
    obtain ⟨hr10a, h⟩ := h
    obtain ⟨ht, hf⟩ := h
    refine k_icmp_ge C dX6_fill__10 ⟨hr10a, ⟨by omega, by omega⟩⟩ 23 13 (by decide) rfl (fun hc10 => ?_) (fun hc10 => ?_)
    · have h := ht hc10; clear ht hf
      refine k_lv C [] [] rfl ?_
      exact hK_23 f_a0 h
    · have h := hf hc10; clear ht hf
      refine k_aload_n C dX6_fill__13 0 rfl rfl 14 rfl ?_
      refine k_iload_n C dX6_fill__14 2 rfl rfl 15 rfl ?_
      refine k_lload_n C dX6_fill__15 1 rfl rfl 16 rfl ?_
      obtain ⟨hi16, h⟩ := h
      refine k_lastore C dX6_fill__16 0 1 rfl rfl hN_a0 hi16 ([(qa0, .inl (cJ, N_a0, .inr (.inl (mL (aset f_a0 x3 x1)))))]) rfl 17 rfl ?_
      refine k_iinc (j := 2) C dX6_fill__17 rfl (by decide) [(3, .int (iI (x3 + 1))), (0, .ref qa0), (1, .long (lL x1))] rfl 20 rfl ?_
      refine k_goto C dX6_fill__20 7 (by decide) ?_
      refine k_lv C [1, 2, 0] [(0, .ref qa0), (1, .long (lL x1)), (3, .int (iI (x3 + 1)))] rfl ?_
      exact ih x1 (x3 + 1) (aset f_a0 x3 x1) h hK_23
set_option maxHeartbeats 4000000 in
set_option maxRecDepth 20000 in
theorem c_X6_fill_ {l : Launch} {D : va_G} {cI cJ cZ : ClassId} (qa0 : Nat) (N_a0 : Nat) (hN_a0 : N_a0 ≤ 2147483647) (f_a0 : (Int → Int)) (x1 : Int) (Q : (Int → Int) → Prop) (h : wp_X6_fill_ (N_a0 : Int) f_a0 x1 Q) : KM l D (kT cI cJ cZ) 0 0 yX6_fill_ wsX6_fill_ rm_X6_fill_ [.ref qa0, .long (lL x1)] ([(qa0, .inl (cJ, N_a0, .inr (.inl (mL f_a0))))]) (rp_X6_fill_ cI cJ cZ qa0 N_a0 Q) := by
  refine KM_intro (lv := [(0, .ref qa0), (1, .long (lL x1))]) false rfl (by decide) (Nat.le_of_ble_eq_true rfl) rfl (fun h => absurd h (by decide)) (fun v ws hq => by obtain ⟨f_a0, rfl, rfl, _⟩ := hq; exact Or.inl ⟨rfl, rfl⟩) (fun A K C => ?_)
  refine k_aload_n C dX6_fill__0 0 rfl rfl 1 rfl ?_
  refine k_ifnonnull C dX6_fill__1 5 (by decide) ?_
  refine k_iconst C dX6_fill__5 6 rfl ?_
  refine k_istore_n C dX6_fill__6 rfl (by decide) [(3, .int (iI 0)), (0, .ref qa0), (1, .long (lL x1))] rfl 7 rfl ?_
  refine k_lv C [1, 2, 0] [(0, .ref qa0), (1, .long (lL x1)), (3, .int (iI 0))] rfl ?_
  obtain ⟨m7, h⟩ := h
  refine w_X6_fill__7 hN_a0 C m7 x1 0 f_a0 h (fun f_a0 h => ?_)
  · exact k_vret C dX6_fill__23 ⟨f_a0, rfl, rfl, h⟩

/-! X5_weigh -/
abbrev rm_X5_weigh : Room := { frames := 2, cells := 0, slots := 0, locals := 86 }
theorem sg_X5_weigh : yX5_weigh.cls ≠ "java/lang/invoke/MethodHandle" ∧ yX5_weigh.cls ≠ "java/lang/invoke/VarHandle" ∧ (parseMethodDescriptor yX5_weigh.desc).map (fun d => d.parameters.length) = some 0 := by decide +kernel
theorem hin_X5_weigh_5 : ∀ w ∈ wsX50, w ∈ wsX5_weigh := fun _ h => List.mem_cons_of_mem _ (List.mem_append_right _ h)
def rp_X5_weigh (cI cJ cZ : ClassId) (qh : Nat → Nat) (S_h : gWS) (T_h : gWT) (Q : gWU → Prop) : Option Value → va_W → Prop := fun v w1 => ∃ (U_h : gWU), v = none ∧ w1 = (wdW cI cJ cZ qh S_h T_h U_h) ∧ Q U_h
def wp_X5_weigh_21 (S_h : gWS) (T_h : gWT) (K_59 : Int → gWU → Prop)  (Q : gWU → Prop) : Nat → Int → Int → gWU → Prop
  | 0, _, _, _ => False
  | n21 + 1, x1, x2, U_h =>
    rI x2 ∧ ((10 ≤ x2 → K_59 x1 U_h) ∧ (¬ (10 ≤ x2) → wp_X5_isLaid T_h x2 (fun (r29 : Int) => ((r29 = 0 → wp_X5_weigh_21 S_h T_h K_59 Q n21 x1 (x2 + 1) U_h) ∧ (¬ (r29 = 0) → wp_X6_at 10 T_h.2.1 x2 (fun (r40 : Int) => rI r40 ∧ rI x1 ∧ ((¬ r40 = x1 → wp_X5_weigh_21 S_h T_h K_59 Q n21 x1 (x2 + 1) U_h) ∧ (¬ (¬ r40 = x1) → wp_X5_passDown S_h T_h U_h x2 x1 (fun (U_h_50 : gWU) => wp_X5_weigh_21 S_h T_h K_59 Q n21 x1 (x2 + 1) U_h_50)))))))))
def wp_X5_weigh_15 (S_h : gWS) (T_h : gWT) (K_65 : gWU → Prop)  (Q : gWU → Prop) : Nat → Int → gWU → Prop
  | 0, _, _ => False
  | n15 + 1, x1, U_h =>
    rI x1 ∧ ((x1 ≤ 0 → K_65 U_h) ∧ (¬ (x1 ≤ 0) → ∃ m21, wp_X5_weigh_21 S_h T_h (fun (x1 : Int) (U_h : gWU) => wp_X5_weigh_15 S_h T_h K_65 Q n15 (x1 + (-1)) U_h) Q m21 x1 0 U_h))
def wp_X5_weigh (S_h : gWS) (T_h : gWT) (U_h : gWU) (Q : gWU → Prop) : Prop :=
    wp_X6_fill_ 10 U_h 0 (fun (f_a0_5 : Int → Int) => wp_X5_tallest T_h (fun (r9 : Int) => ∃ m15, wp_X5_weigh_15 S_h T_h (fun (U_h : gWU) => Q U_h) Q m15 (r9 - 1) f_a0_5))
set_option maxHeartbeats 4000000 in
set_option maxRecDepth 20000 in
theorem w_X5_weigh_21 {l : Launch} {D : va_G} {cI cJ cZ : ClassId} {A : Nat → Prop} {K : KT} {qh : Nat → Nat} {S_h : gWS} {T_h : gWT} {Q : gWU → Prop} {K_59 : Int → gWU → Prop} (C : KC cX5_weigh yX5_weigh.cls wsX5_weigh rm_X5_weigh 3 D (kT cI cJ cZ) A l false (rp_X5_weigh cI cJ cZ qh S_h T_h Q) 0 0 K) : ∀ (n : Nat) (x1 : Int) (x2 : Int) (U_h : gWU), wp_X5_weigh_21 S_h T_h K_59 Q n x1 x2 U_h → (∀ (x1 : Int) (U_h : gWU), K_59 x1 U_h → K 0 0 59 [(0, .ref (qh 0)), (1, .int (iI x1))] [] ((wdW cI cJ cZ qh S_h T_h U_h))) → K 0 0 21 [(0, .ref (qh 0)), (1, .int (iI x1)), (2, .int (iI x2))] [] ((wdW cI cJ cZ qh S_h T_h U_h)) := by
  intro n
  induction n with
  | zero => intro x1 x2 U_h h; exact h.elim
  | succ n ih =>
    intro x1 x2 U_h h hK_59
    refine k_iload_n C dX5_weigh_21 2 rfl rfl 22 rfl ?_
    refine k_bipush C dX5_weigh_22 (by decide) 24 rfl ?_
    obtain ⟨hr24a, h⟩ := h
    obtain ⟨ht, hf⟩ := h
    refine k_icmp_ge C dX5_weigh_24 ⟨hr24a, (by decide)⟩ 59 27 (by decide) rfl (fun hc24 => ?_) (fun hc24 => ?_)
    · have h := ht hc24; clear ht hf
      refine k_lv C [0, 1] [(0, .ref (qh 0)), (1, .int (iI x1))] rfl ?_
      exact hK_59 x1 U_h h
    · have h := hf hc24; clear ht hf
      refine k_aload_n C dX5_weigh_27 0 rfl rfl 28 rfl ?_
      refine k_iload_n C dX5_weigh_28 2 rfl rfl 29 rfl ?_
      have hM := c_X5_isLaid (l := l) (D := D) (cI := cI) (cJ := cJ) (cZ := cZ) qh S_h T_h U_h x2 _ h
      refine k_callV C dX5_weigh_29 hM gX5_weigh_X5_isLaid rfl sg_X5_isLaid 5 rfl rfl rfl (Nat.le_of_ble_eq_true rfl) ⟨⟨rfl, rfl⟩, by decide, by decide⟩ ⟨Nat.le_refl 0, Nat.le_refl 0⟩ [0, 1, 2, 3, 4, 5, 6, 7, 8] [] rfl rfl rfl rfl (by decide) 0 0 ⟨rfl, rfl⟩ 32 rfl (fun v w1 hq29 => ?_)
      obtain ⟨r29, rfl, rfl, hb29, h⟩ := hq29
      refine k_perm C [0, 1, 2, 3, 4, 5, 6, 7, 8] [.int (iI r29)] ((wdW cI cJ cZ qh S_h T_h U_h)) rfl rfl rfl ?_
      obtain ⟨ht, hf⟩ := h
      refine k_if_eq C dX5_weigh_32 (by rcases hb29 with rfl | rfl <;> decide) 53 35 (by decide) rfl (fun hc32 => ?_) (fun hc32 => ?_)
      · have h := ht hc32; clear ht hf
        refine k_iinc (j := 2) C dX5_weigh_53 rfl (by decide) [(2, .int (iI (x2 + 1))), (0, .ref (qh 0)), (1, .int (iI x1))] rfl 56 rfl ?_
        refine k_goto C dX5_weigh_56 21 (by decide) ?_
        refine k_lv C [1, 2, 0] [(0, .ref (qh 0)), (1, .int (iI x1)), (2, .int (iI (x2 + 1)))] rfl ?_
        exact ih x1 (x2 + 1) U_h h hK_59
      · have h := hf hc32; clear ht hf
        refine k_aload_n C dX5_weigh_35 0 rfl rfl 36 rfl ?_
        refine k_get C dX5_weigh_36 0 rfl (ci := 5) rfl hin_X5_weigh_5 6 (by decide) (List.mem_of_getElem? (i := 2) rfl) rfl 39 rfl ?_
        refine k_iload_n C dX5_weigh_39 2 rfl rfl 40 rfl ?_
        have hM := c_X6_at (l := l) (D := D) (cI := cI) (cJ := cJ) (cZ := cZ) (qh 4) 10 (by decide) T_h.2.1 x2 _ h
        refine k_callNS C dX5_weigh_40 hM gX5_weigh_X6_at_n71 (List.mem_of_getElem? (i := 37) rfl) (List.mem_of_getElem? (i := 4) rfl) rfl sg_X6_at (List.mem_of_getElem? (i := 16) rfl) rfl (Nat.le_of_ble_eq_true rfl) ⟨⟨rfl, rfl⟩, by decide, by decide⟩ ⟨Nat.le_refl 0, Nat.le_refl 0⟩ [4] [0, 1, 2, 3, 5, 6, 7, 8] rfl rfl rfl rfl (by decide) 0 0 ⟨rfl, rfl⟩ 43 rfl (fun v w1 hq40 => ?_)
        obtain ⟨r40, rfl, rfl, h⟩ := hq40
        refine k_perm C [0, 1, 2, 3, 8, 4, 5, 6, 7] [.int (iI r40)] ((wdW cI cJ cZ qh S_h T_h U_h)) rfl rfl rfl ?_
        refine k_iload_n C dX5_weigh_43 1 rfl rfl 44 rfl ?_
        obtain ⟨hr44a, hr44b, h⟩ := h
        obtain ⟨ht, hf⟩ := h
        refine k_icmp_ne C dX5_weigh_44 ⟨hr44a, hr44b⟩ 53 47 (by decide) rfl (fun hc44 => ?_) (fun hc44 => ?_)
        · have h := ht hc44; clear ht hf
          refine k_iinc (j := 2) C dX5_weigh_53 rfl (by decide) [(2, .int (iI (x2 + 1))), (0, .ref (qh 0)), (1, .int (iI x1))] rfl 56 rfl ?_
          refine k_goto C dX5_weigh_56 21 (by decide) ?_
          refine k_lv C [1, 2, 0] [(0, .ref (qh 0)), (1, .int (iI x1)), (2, .int (iI (x2 + 1)))] rfl ?_
          exact ih x1 (x2 + 1) U_h h hK_59
        · have h := hf hc44; clear ht hf
          refine k_aload_n C dX5_weigh_47 0 rfl rfl 48 rfl ?_
          refine k_iload_n C dX5_weigh_48 2 rfl rfl 49 rfl ?_
          refine k_iload_n C dX5_weigh_49 1 rfl rfl 50 rfl ?_
          have hM := c_X5_passDown (l := l) (D := D) (cI := cI) (cJ := cJ) (cZ := cZ) qh S_h T_h U_h x2 x1 _ h
          refine k_callV C dX5_weigh_50 hM gX5_weigh_X5_passDown rfl sg_X5_passDown 5 rfl rfl rfl (Nat.le_of_ble_eq_true rfl) ⟨⟨rfl, rfl⟩, by decide, by decide⟩ ⟨Nat.le_refl 0, Nat.le_refl 0⟩ [0, 1, 2, 3, 4, 5, 6, 7, 8] [] rfl rfl rfl rfl (by decide) 0 0 ⟨rfl, rfl⟩ 53 rfl (fun v w1 hq50 => ?_)
          obtain ⟨U_h_50, rfl, rfl, h⟩ := hq50
          refine k_perm C [0, 1, 2, 3, 4, 5, 6, 7, 8] [] ((wdW cI cJ cZ qh S_h T_h U_h_50)) rfl rfl rfl ?_
          refine k_iinc (j := 2) C dX5_weigh_53 rfl (by decide) [(2, .int (iI (x2 + 1))), (0, .ref (qh 0)), (1, .int (iI x1))] rfl 56 rfl ?_
          refine k_goto C dX5_weigh_56 21 (by decide) ?_
          refine k_lv C [1, 2, 0] [(0, .ref (qh 0)), (1, .int (iI x1)), (2, .int (iI (x2 + 1)))] rfl ?_
          exact ih x1 (x2 + 1) U_h_50 h hK_59
set_option maxHeartbeats 4000000 in
set_option maxRecDepth 20000 in
theorem w_X5_weigh_15 {l : Launch} {D : va_G} {cI cJ cZ : ClassId} {A : Nat → Prop} {K : KT} {qh : Nat → Nat} {S_h : gWS} {T_h : gWT} {Q : gWU → Prop} {K_65 : gWU → Prop} (C : KC cX5_weigh yX5_weigh.cls wsX5_weigh rm_X5_weigh 3 D (kT cI cJ cZ) A l false (rp_X5_weigh cI cJ cZ qh S_h T_h Q) 0 0 K) : ∀ (n : Nat) (x1 : Int) (U_h : gWU), wp_X5_weigh_15 S_h T_h K_65 Q n x1 U_h → (∀ (U_h : gWU), K_65 U_h → K 0 0 65 [] [] ((wdW cI cJ cZ qh S_h T_h U_h))) → K 0 0 15 [(0, .ref (qh 0)), (1, .int (iI x1))] [] ((wdW cI cJ cZ qh S_h T_h U_h)) := by
  intro n
  induction n with
  | zero => intro x1 U_h h; exact h.elim
  | succ n ih =>
    intro x1 U_h h hK_65
    refine k_iload_n C dX5_weigh_15 1 rfl rfl 16 rfl ?_
    obtain ⟨hr16a, h⟩ := h
    obtain ⟨ht, hf⟩ := h
    refine k_if_le C dX5_weigh_16 hr16a 65 19 (by decide) rfl (fun hc16 => ?_) (fun hc16 => ?_)
    · have h := ht hc16; clear ht hf
      refine k_lv C [] [] rfl ?_
      exact hK_65 U_h h
    · have h := hf hc16; clear ht hf
      refine k_iconst C dX5_weigh_19 20 rfl ?_
      refine k_istore_n C dX5_weigh_20 rfl (by decide) [(2, .int (iI 0)), (0, .ref (qh 0)), (1, .int (iI x1))] rfl 21 rfl ?_
      refine k_lv C [1, 2, 0] [(0, .ref (qh 0)), (1, .int (iI x1)), (2, .int (iI 0))] rfl ?_
      obtain ⟨m21, h⟩ := h
      refine w_X5_weigh_21 C m21 x1 0 U_h h (fun x1 U_h h => ?_)
      · refine k_iinc (j := 1) C dX5_weigh_59 rfl (by decide) [(1, .int (iI (x1 + (-1)))), (0, .ref (qh 0))] rfl 62 rfl ?_
        refine k_goto C dX5_weigh_62 15 (by decide) ?_
        refine k_lv C [1, 0] [(0, .ref (qh 0)), (1, .int (iI (x1 + (-1))))] rfl ?_
        exact ih (x1 + (-1)) U_h h hK_65
set_option maxHeartbeats 4000000 in
set_option maxRecDepth 20000 in
theorem c_X5_weigh {l : Launch} {D : va_G} {cI cJ cZ : ClassId} (qh : Nat → Nat) (S_h : gWS) (T_h : gWT) (U_h : gWU) (Q : gWU → Prop) (h : wp_X5_weigh S_h T_h U_h Q) : KM l D (kT cI cJ cZ) 0 0 yX5_weigh wsX5_weigh rm_X5_weigh [.ref (qh 0)] ((wdW cI cJ cZ qh S_h T_h U_h)) (rp_X5_weigh cI cJ cZ qh S_h T_h Q) := by
  refine KM_intro (lv := [(0, .ref (qh 0))]) false rfl (by decide) (Nat.le_of_ble_eq_true rfl) rfl (fun h => absurd h (by decide)) (fun v ws hq => by obtain ⟨U_h, rfl, rfl, _⟩ := hq; exact Or.inl ⟨rfl, rfl⟩) (fun A K C => ?_)
  refine k_aload_n C dX5_weigh_0 0 rfl rfl 1 rfl ?_
  refine k_get C dX5_weigh_1 0 rfl (ci := 5) rfl hin_X5_weigh_5 10 (by decide) (List.mem_of_getElem? (i := 1) rfl) rfl 4 rfl ?_
  refine k_lconst (v := 0) C dX5_weigh_4 (by decide) 5 rfl ?_
  have hM := c_X6_fill_ (l := l) (D := D) (cI := cI) (cJ := cJ) (cZ := cZ) (qh 8) 10 (by decide) U_h 0 _ h
  refine k_callNS C dX5_weigh_5 hM gX5_weigh_X6_fill__n115 (List.mem_of_getElem? (i := 38) rfl) (List.mem_of_getElem? (i := 4) rfl) rfl sg_X6_fill_ (List.mem_of_getElem? (i := 3) rfl) rfl (Nat.le_of_ble_eq_true rfl) ⟨⟨rfl, rfl⟩, by decide, by decide⟩ ⟨Nat.le_refl 0, Nat.le_refl 0⟩ [8] [0, 1, 2, 3, 4, 5, 6, 7] rfl rfl rfl rfl (by decide) 0 0 ⟨rfl, rfl⟩ 8 rfl (fun v w1 hq5 => ?_)
  obtain ⟨f_a0_5, rfl, rfl, h⟩ := hq5
  refine k_perm C [0, 1, 2, 3, 4, 5, 6, 7, 8] [] ((wdW cI cJ cZ qh S_h T_h f_a0_5)) rfl rfl rfl ?_
  refine k_aload_n C dX5_weigh_8 0 rfl rfl 9 rfl ?_
  have hM := c_X5_tallest (l := l) (D := D) (cI := cI) (cJ := cJ) (cZ := cZ) qh S_h T_h f_a0_5 _ h
  refine k_callV C dX5_weigh_9 hM gX5_weigh_X5_tallest rfl sg_X5_tallest 5 rfl rfl rfl (Nat.le_of_ble_eq_true rfl) ⟨⟨rfl, rfl⟩, by decide, by decide⟩ ⟨Nat.le_refl 0, Nat.le_refl 0⟩ [0, 1, 2, 3, 4, 5, 6, 7, 8] [] rfl rfl rfl rfl (by decide) 0 0 ⟨rfl, rfl⟩ 12 rfl (fun v w1 hq9 => ?_)
  obtain ⟨r9, rfl, rfl, h⟩ := hq9
  refine k_perm C [0, 1, 2, 3, 4, 5, 6, 7, 8] [.int (iI r9)] ((wdW cI cJ cZ qh S_h T_h f_a0_5)) rfl rfl rfl ?_
  refine k_iconst C dX5_weigh_12 13 rfl ?_
  refine k_isub C dX5_weigh_13 14 rfl ?_
  refine k_istore_n C dX5_weigh_14 rfl (by decide) [(1, .int (iI (r9 - 1))), (0, .ref (qh 0))] rfl 15 rfl ?_
  refine k_lv C [1, 0] [(0, .ref (qh 0)), (1, .int (iI (r9 - 1)))] rfl ?_
  obtain ⟨m15, h⟩ := h
  refine w_X5_weigh_15 C m15 (r9 - 1) f_a0_5 h (fun U_h h => ?_)
  · exact k_vret C dX5_weigh_65 ⟨U_h, rfl, rfl, h⟩

/-! X5_put -/
abbrev rm_X5_put : Room := { frames := 3, cells := 0, slots := 0, locals := 108 }
theorem sg_X5_put : yX5_put.cls ≠ "java/lang/invoke/MethodHandle" ∧ yX5_put.cls ≠ "java/lang/invoke/VarHandle" ∧ (parseMethodDescriptor yX5_put.desc).map (fun d => d.parameters.length) = some 2 := by decide +kernel
theorem hin_X5_put_5 : ∀ w ∈ wsX50, w ∈ wsX5_put := fun _ h => List.mem_cons_of_mem _ (List.mem_append_right _ h)
def rp_X5_put (cI cJ cZ : ClassId) (qh : Nat → Nat) (S_h : gWS) (Q : Int → gWT → gWU → Prop) : Option Value → va_W → Prop := fun v w1 => ∃ (r : Int) (T_h : gWT) (U_h : gWU), v = some (.int (iI r)) ∧ w1 = (wdW cI cJ cZ qh S_h T_h U_h) ∧ Q r T_h U_h
def wp_X5_put (S_h : gWS) (T_h : gWT) (U_h : gWU) (x1 : Int) (x2 : Int) (Q : Int → gWT → gWU → Prop) : Prop :=
    wp_X5_isFree S_h T_h x1 (fun (r2 : Int) => ((¬ r2 = 0 → wp_X6_at 10 S_h.2.2.1 x1 (fun (r15 : Int) => rI x2 ∧ ((x2 < 0 → Q 2 T_h U_h) ∧ (¬ (x2 < 0) → rI (x2 + r15) ∧ rI S_h.1 ∧ (((x2 + r15) ≤ S_h.1 → wp_X5_rowOnTop T_h x2 r15 (fun (r38 : Int) => wp_X5_heldCells T_h r38 x2 r15 (fun (r49 : Int) => rI (2 * r49) ∧ rI r15 ∧ ((r15 ≤ (2 * r49) → wp_X5_lay S_h T_h x1 r38 x2 (fun (T_h_64 : gWT) => rI r38 ∧ ((¬ r38 = 0 → wp_X5_weigh S_h T_h_64 U_h (fun (U_h_75 : gWU) => wp_X5_isAnyTooHeavy S_h T_h_64 U_h_75 (fun (r79 : Int) => ((r79 = 0 → Q 0 T_h_64 U_h_75) ∧ (¬ (r79 = 0) → wp_X5_lift S_h T_h_64 x1 (fun (T_h_87 : gWT) => Q 4 T_h_87 U_h_75)))))) ∧ (¬ (¬ r38 = 0) → Q 0 T_h_64 U_h)))) ∧ (¬ (r15 ≤ (2 * r49)) → Q 3 T_h U_h))))) ∧ (¬ ((x2 + r15) ≤ S_h.1) → Q 2 T_h U_h)))))) ∧ (¬ (¬ r2 = 0) → Q 1 T_h U_h)))

set_option maxHeartbeats 4000000 in
set_option maxRecDepth 20000 in
theorem c_X5_put {l : Launch} {D : va_G} {cI cJ cZ : ClassId} (qh : Nat → Nat) (S_h : gWS) (T_h : gWT) (U_h : gWU) (x1 : Int) (x2 : Int) (Q : Int → gWT → gWU → Prop) (h : wp_X5_put S_h T_h U_h x1 x2 Q) : KM l D (kT cI cJ cZ) 0 0 yX5_put wsX5_put rm_X5_put [.ref (qh 0), .int (iI x1), .int (iI x2)] ((wdW cI cJ cZ qh S_h T_h U_h)) (rp_X5_put cI cJ cZ qh S_h Q) := by
  refine KM_intro (lv := [(0, .ref (qh 0)), (1, .int (iI x1)), (2, .int (iI x2))]) false rfl (by decide) (Nat.le_of_ble_eq_true rfl) rfl (fun h => absurd h (by decide)) (fun v ws hq => by obtain ⟨r, T_h, U_h, rfl, rfl, _⟩ := hq; exact Or.inr (Or.inl ⟨rfl, _, rfl⟩)) (fun A K C => ?_)
  refine k_aload_n C dX5_put_0 0 rfl rfl 1 rfl ?_
  refine k_iload_n C dX5_put_1 1 rfl rfl 2 rfl ?_
  have hM := c_X5_isFree (l := l) (D := D) (cI := cI) (cJ := cJ) (cZ := cZ) qh S_h T_h U_h x1 _ h
  refine k_callV C dX5_put_2 hM gX5_put_X5_isFree rfl sg_X5_isFree 5 rfl rfl rfl (Nat.le_of_ble_eq_true rfl) ⟨⟨rfl, rfl⟩, by decide, by decide⟩ ⟨Nat.le_refl 0, Nat.le_refl 0⟩ [0, 1, 2, 3, 4, 5, 6, 7, 8] [] rfl rfl rfl rfl (by decide) 0 0 ⟨rfl, rfl⟩ 5 rfl (fun v w1 hq2 => ?_)
  obtain ⟨r2, rfl, rfl, hb2, h⟩ := hq2
  refine k_perm C [0, 1, 2, 3, 4, 5, 6, 7, 8] [.int (iI r2)] ((wdW cI cJ cZ qh S_h T_h U_h)) rfl rfl rfl ?_
  obtain ⟨ht, hf⟩ := h
  refine k_if_ne C dX5_put_5 (by rcases hb2 with rfl | rfl <;> decide) 10 8 (by decide) rfl (fun hc5 => ?_) (fun hc5 => ?_)
  · have h := ht hc5; clear ht hf
    refine k_aload_n C dX5_put_10 0 rfl rfl 11 rfl ?_
    refine k_get C dX5_put_11 0 rfl (ci := 5) rfl hin_X5_put_5 3 (by decide) (List.mem_of_getElem? (i := 1) rfl) rfl 14 rfl ?_
    refine k_iload_n C dX5_put_14 1 rfl rfl 15 rfl ?_
    have hM := c_X6_at (l := l) (D := D) (cI := cI) (cJ := cJ) (cZ := cZ) (qh 1) 10 (by decide) S_h.2.2.1 x1 _ h
    refine k_callNS C dX5_put_15 hM gX5_put_X6_at_n71 (List.mem_of_getElem? (i := 37) rfl) (List.mem_of_getElem? (i := 15) rfl) rfl sg_X6_at (List.mem_of_getElem? (i := 17) rfl) rfl (Nat.le_of_ble_eq_true rfl) ⟨⟨rfl, rfl⟩, by decide, by decide⟩ ⟨Nat.le_refl 0, Nat.le_refl 0⟩ [1] [0, 2, 3, 4, 5, 6, 7, 8] rfl rfl rfl rfl (by decide) 0 0 ⟨rfl, rfl⟩ 18 rfl (fun v w1 hq15 => ?_)
    obtain ⟨r15, rfl, rfl, h⟩ := hq15
    refine k_perm C [0, 8, 1, 2, 3, 4, 5, 6, 7] [.int (iI r15)] ((wdW cI cJ cZ qh S_h T_h U_h)) rfl rfl rfl ?_
    refine k_istore_n C dX5_put_18 rfl (by decide) [(3, .int (iI r15)), (0, .ref (qh 0)), (1, .int (iI x1)), (2, .int (iI x2))] rfl 19 rfl ?_
    refine k_iload_n C dX5_put_19 3 rfl rfl 20 rfl ?_
    obtain ⟨hr20a, h⟩ := h
    obtain ⟨ht, hf⟩ := h
    refine k_if_lt C dX5_put_20 hr20a 33 23 (by decide) rfl (fun hc20 => ?_) (fun hc20 => ?_)
    · have h := ht hc20; clear ht hf
      refine k_iconst C dX5_put_33 34 rfl ?_
      exact k_iret C dX5_put_34 ⟨2, T_h, U_h, rfl, rfl, h⟩
    · have h := hf hc20; clear ht hf
      refine k_iload_n C dX5_put_23 3 rfl rfl 24 rfl ?_
      refine k_iload_n C dX5_put_24 0 rfl rfl 25 rfl ?_
      refine k_iadd C dX5_put_25 26 rfl ?_
      refine k_aload_n C dX5_put_26 1 rfl rfl 27 rfl ?_
      refine k_get C dX5_put_27 0 rfl (ci := 5) rfl hin_X5_put_5 0 (by decide) (List.mem_of_getElem? (i := 2) rfl) rfl 30 rfl ?_
      obtain ⟨hr30a, hr30b, h⟩ := h
      obtain ⟨ht, hf⟩ := h
      refine k_icmp_le C dX5_put_30 ⟨hr30a, hr30b⟩ 35 33 (by decide) rfl (fun hc30 => ?_) (fun hc30 => ?_)
      · have h := ht hc30; clear ht hf
        refine k_aload_n C dX5_put_35 1 rfl rfl 36 rfl ?_
        refine k_iload_n C dX5_put_36 3 rfl rfl 37 rfl ?_
        refine k_iload_n C dX5_put_37 0 rfl rfl 38 rfl ?_
        have hM := c_X5_rowOnTop (l := l) (D := D) (cI := cI) (cJ := cJ) (cZ := cZ) qh S_h T_h U_h x2 r15 _ h
        refine k_callV C dX5_put_38 hM gX5_put_X5_rowOnTop rfl sg_X5_rowOnTop 5 rfl rfl rfl (Nat.le_of_ble_eq_true rfl) ⟨⟨rfl, rfl⟩, by decide, by decide⟩ ⟨Nat.le_refl 0, Nat.le_refl 0⟩ [0, 1, 2, 3, 4, 5, 6, 7, 8] [] rfl rfl rfl rfl (by decide) 0 0 ⟨rfl, rfl⟩ 41 rfl (fun v w1 hq38 => ?_)
        obtain ⟨r38, rfl, rfl, h⟩ := hq38
        refine k_perm C [0, 1, 2, 3, 4, 5, 6, 7, 8] [.int (iI r38)] ((wdW cI cJ cZ qh S_h T_h U_h)) rfl rfl rfl ?_
        refine k_istore C dX5_put_41 (by decide) [(4, .int (iI r38)), (3, .int (iI r15)), (0, .ref (qh 0)), (1, .int (iI x1)), (2, .int (iI x2))] rfl 43 rfl ?_
        refine k_iconst C dX5_put_43 44 rfl ?_
        refine k_aload_n C dX5_put_44 2 rfl rfl 45 rfl ?_
        refine k_iload C dX5_put_45 0 rfl 47 rfl ?_
        refine k_iload_n C dX5_put_47 4 rfl rfl 48 rfl ?_
        refine k_iload_n C dX5_put_48 1 rfl rfl 49 rfl ?_
        have hM := c_X5_heldCells (l := l) (D := D) (cI := cI) (cJ := cJ) (cZ := cZ) qh S_h T_h U_h r38 x2 r15 _ h
        refine k_callV C dX5_put_49 hM gX5_put_X5_heldCells rfl sg_X5_heldCells 5 rfl rfl rfl (Nat.le_of_ble_eq_true rfl) ⟨⟨rfl, rfl⟩, by decide, by decide⟩ ⟨Nat.le_refl 0, Nat.le_refl 0⟩ [0, 1, 2, 3, 4, 5, 6, 7, 8] [] rfl rfl rfl rfl (by decide) 0 0 ⟨rfl, rfl⟩ 52 rfl (fun v w1 hq49 => ?_)
        obtain ⟨r49, rfl, rfl, h⟩ := hq49
        refine k_perm C [0, 1, 2, 3, 4, 5, 6, 7, 8] [.int (iI r49), .int (iI 2)] ((wdW cI cJ cZ qh S_h T_h U_h)) rfl rfl rfl ?_
        refine k_imul C dX5_put_52 53 rfl ?_
        refine k_iload_n C dX5_put_53 1 rfl rfl 54 rfl ?_
        obtain ⟨hr54a, hr54b, h⟩ := h
        obtain ⟨ht, hf⟩ := h
        refine k_icmp_ge C dX5_put_54 ⟨hr54a, hr54b⟩ 59 57 (by decide) rfl (fun hc54 => ?_) (fun hc54 => ?_)
        · have h := ht hc54; clear ht hf
          refine k_aload_n C dX5_put_59 2 rfl rfl 60 rfl ?_
          refine k_iload_n C dX5_put_60 3 rfl rfl 61 rfl ?_
          refine k_iload C dX5_put_61 0 rfl 63 rfl ?_
          refine k_iload_n C dX5_put_63 4 rfl rfl 64 rfl ?_
          have hM := c_X5_lay (l := l) (D := D) (cI := cI) (cJ := cJ) (cZ := cZ) qh S_h T_h U_h x1 r38 x2 _ h
          refine k_callV C dX5_put_64 hM gX5_put_X5_lay rfl sg_X5_lay 5 rfl rfl rfl (Nat.le_of_ble_eq_true rfl) ⟨⟨rfl, rfl⟩, by decide, by decide⟩ ⟨Nat.le_refl 0, Nat.le_refl 0⟩ [0, 1, 2, 3, 4, 5, 6, 7, 8] [] rfl rfl rfl rfl (by decide) 0 0 ⟨rfl, rfl⟩ 67 rfl (fun v w1 hq64 => ?_)
          obtain ⟨T_h_64, rfl, rfl, h⟩ := hq64
          refine k_perm C [0, 1, 2, 3, 4, 5, 6, 7, 8] [] ((wdW cI cJ cZ qh S_h T_h_64 U_h)) rfl rfl rfl ?_
          refine k_iload C dX5_put_67 0 rfl 69 rfl ?_
          obtain ⟨hr69a, h⟩ := h
          obtain ⟨ht, hf⟩ := h
          refine k_if_ne C dX5_put_69 hr69a 74 72 (by decide) rfl (fun hc69 => ?_) (fun hc69 => ?_)
          · have h := ht hc69; clear ht hf
            refine k_aload_n C dX5_put_74 2 rfl rfl 75 rfl ?_
            have hM := c_X5_weigh (l := l) (D := D) (cI := cI) (cJ := cJ) (cZ := cZ) qh S_h T_h_64 U_h _ h
            refine k_callV C dX5_put_75 hM gX5_put_X5_weigh rfl sg_X5_weigh 5 rfl rfl rfl (Nat.le_of_ble_eq_true rfl) ⟨⟨rfl, rfl⟩, by decide, by decide⟩ ⟨Nat.le_refl 0, Nat.le_refl 0⟩ [0, 1, 2, 3, 4, 5, 6, 7, 8] [] rfl rfl rfl rfl (by decide) 0 0 ⟨rfl, rfl⟩ 78 rfl (fun v w1 hq75 => ?_)
            obtain ⟨U_h_75, rfl, rfl, h⟩ := hq75
            refine k_perm C [0, 1, 2, 3, 4, 5, 6, 7, 8] [] ((wdW cI cJ cZ qh S_h T_h_64 U_h_75)) rfl rfl rfl ?_
            refine k_aload_n C dX5_put_78 2 rfl rfl 79 rfl ?_
            have hM := c_X5_isAnyTooHeavy (l := l) (D := D) (cI := cI) (cJ := cJ) (cZ := cZ) qh S_h T_h_64 U_h_75 _ h
            refine k_callV C dX5_put_79 hM gX5_put_X5_isAnyTooHeavy rfl sg_X5_isAnyTooHeavy 5 rfl rfl rfl (Nat.le_of_ble_eq_true rfl) ⟨⟨rfl, rfl⟩, by decide, by decide⟩ ⟨Nat.le_refl 0, Nat.le_refl 0⟩ [0, 1, 2, 3, 4, 5, 6, 7, 8] [] rfl rfl rfl rfl (by decide) 0 0 ⟨rfl, rfl⟩ 82 rfl (fun v w1 hq79 => ?_)
            obtain ⟨r79, rfl, rfl, hb79, h⟩ := hq79
            refine k_perm C [0, 1, 2, 3, 4, 5, 6, 7, 8] [.int (iI r79)] ((wdW cI cJ cZ qh S_h T_h_64 U_h_75)) rfl rfl rfl ?_
            obtain ⟨ht, hf⟩ := h
            refine k_if_eq C dX5_put_82 (by rcases hb79 with rfl | rfl <;> decide) 92 85 (by decide) rfl (fun hc82 => ?_) (fun hc82 => ?_)
            · have h := ht hc82; clear ht hf
              refine k_iconst C dX5_put_92 93 rfl ?_
              exact k_iret C dX5_put_93 ⟨0, T_h_64, U_h_75, rfl, rfl, h⟩
            · have h := hf hc82; clear ht hf
              refine k_aload_n C dX5_put_85 2 rfl rfl 86 rfl ?_
              refine k_iload_n C dX5_put_86 3 rfl rfl 87 rfl ?_
              have hM := c_X5_lift (l := l) (D := D) (cI := cI) (cJ := cJ) (cZ := cZ) qh S_h T_h_64 U_h_75 x1 _ h
              refine k_callV C dX5_put_87 hM gX5_put_X5_lift rfl sg_X5_lift 5 rfl rfl rfl (Nat.le_of_ble_eq_true rfl) ⟨⟨rfl, rfl⟩, by decide, by decide⟩ ⟨Nat.le_refl 0, Nat.le_refl 0⟩ [0, 1, 2, 3, 4, 5, 6, 7, 8] [] rfl rfl rfl rfl (by decide) 0 0 ⟨rfl, rfl⟩ 90 rfl (fun v w1 hq87 => ?_)
              obtain ⟨T_h_87, rfl, rfl, h⟩ := hq87
              refine k_perm C [0, 1, 2, 3, 4, 5, 6, 7, 8] [] ((wdW cI cJ cZ qh S_h T_h_87 U_h_75)) rfl rfl rfl ?_
              refine k_iconst C dX5_put_90 91 rfl ?_
              exact k_iret C dX5_put_91 ⟨4, T_h_87, U_h_75, rfl, rfl, h⟩
          · have h := hf hc69; clear ht hf
            refine k_iconst C dX5_put_72 73 rfl ?_
            exact k_iret C dX5_put_73 ⟨0, T_h_64, U_h, rfl, rfl, h⟩
        · have h := hf hc54; clear ht hf
          refine k_iconst C dX5_put_57 58 rfl ?_
          exact k_iret C dX5_put_58 ⟨3, T_h, U_h, rfl, rfl, h⟩
      · have h := hf hc30; clear ht hf
        refine k_iconst C dX5_put_33 34 rfl ?_
        exact k_iret C dX5_put_34 ⟨2, T_h, U_h, rfl, rfl, h⟩
  · have h := hf hc5; clear ht hf
    refine k_iconst C dX5_put_8 9 rfl ?_
    exact k_iret C dX5_put_9 ⟨1, T_h, U_h, rfl, rfl, h⟩

/-! X5_isCovered -/
abbrev rm_X5_isCovered : Room := { frames := 1, cells := 0, slots := 0, locals := 21 }
theorem sg_X5_isCovered : yX5_isCovered.cls ≠ "java/lang/invoke/MethodHandle" ∧ yX5_isCovered.cls ≠ "java/lang/invoke/VarHandle" ∧ (parseMethodDescriptor yX5_isCovered.desc).map (fun d => d.parameters.length) = some 1 := by decide +kernel
theorem hin_X5_isCovered_5 : ∀ w ∈ wsX50, w ∈ wsX5_isCovered := fun _ h => List.mem_cons_of_mem _ (List.mem_append_right _ h)
def rp_X5_isCovered (cI cJ cZ : ClassId) (qh : Nat → Nat) (S_h : gWS) (T_h : gWT) (U_h : gWU) (Q : Int → Prop) : Option Value → va_W → Prop := fun v w1 => ∃ (r : Int), v = some (.int (iI r)) ∧ w1 = (wdW cI cJ cZ qh S_h T_h U_h) ∧ (r = 0 ∨ r = 1) ∧ Q r
def wp_X5_isCovered_11 (T_h : gWT) (K_49 : Prop) (K_57 : Prop)  (Q : Int → Prop) : Nat → Int → Int → Int → Prop
  | 0, _, _, _ => False
  | n11 + 1, x1, x2, x3 =>
    rI x3 ∧ rI x2 ∧ ((x2 ≤ x3 → K_57 ) ∧ (¬ (x2 ≤ x3) → wp_X6_at 10 T_h.2.1 x1 (fun (r25 : Int) => wp_X6_at 10 T_h.2.2.1 x1 (fun (r35 : Int) => wp_X5_cellAt (r25 + 1) (r35 + x3) (fun (r40 : Int) => wp_X6_at 90 T_h.2.2.2.1 r40 (fun (r43 : Int) => rI r43 ∧ ((r43 = 0 → wp_X5_isCovered_11 T_h K_49 K_57 Q n11 x1 x2 (x3 + 1)) ∧ (¬ (r43 = 0) → K_49 ))))))))
def wp_X5_isCovered (S_h : gWS) (T_h : gWT) (x1 : Int) (Q : Int → Prop) : Prop :=
    wp_X6_at 10 S_h.2.2.1 x1 (fun (r5 : Int) => ∃ m11, wp_X5_isCovered_11 T_h (Q 1) (Q 0) Q m11 x1 r5 0)
set_option maxHeartbeats 4000000 in
set_option maxRecDepth 20000 in
theorem w_X5_isCovered_11 {l : Launch} {D : va_G} {cI cJ cZ : ClassId} {A : Nat → Prop} {K : KT} {qh : Nat → Nat} {S_h : gWS} {T_h : gWT} {U_h : gWU} {Q : Int → Prop} {K_49 : Prop} {K_57 : Prop} (C : KC cX5_isCovered yX5_isCovered.cls wsX5_isCovered rm_X5_isCovered 4 D (kT cI cJ cZ) A l false (rp_X5_isCovered cI cJ cZ qh S_h T_h U_h Q) 0 0 K) : ∀ (n : Nat) (x1 : Int) (x2 : Int) (x3 : Int), wp_X5_isCovered_11 T_h K_49 K_57 Q n x1 x2 x3 → (∀ (_ : Unit), K_49  → K 0 0 49 [] [] ((wdW cI cJ cZ qh S_h T_h U_h))) → (∀ (_ : Unit), K_57  → K 0 0 57 [] [] ((wdW cI cJ cZ qh S_h T_h U_h))) → K 0 0 11 [(0, .ref (qh 0)), (1, .int (iI x1)), (2, .int (iI x2)), (3, .int (iI x3))] [] ((wdW cI cJ cZ qh S_h T_h U_h)) := by
  intro n
  induction n with
  | zero => intro x1 x2 x3 h; exact h.elim
  | succ n ih =>
    intro x1 x2 x3 h hK_49 hK_57
    refine k_iload_n C dX5_isCovered_11 3 rfl rfl 12 rfl ?_
    refine k_iload_n C dX5_isCovered_12 2 rfl rfl 13 rfl ?_
    obtain ⟨hr13a, hr13b, h⟩ := h
    obtain ⟨ht, hf⟩ := h
    refine k_icmp_ge C dX5_isCovered_13 ⟨hr13a, hr13b⟩ 57 16 (by decide) rfl (fun hc13 => ?_) (fun hc13 => ?_)
    · have h := ht hc13; clear ht hf
      refine k_lv C [] [] rfl ?_
      exact hK_57 () h
    · have h := hf hc13; clear ht hf
      refine k_aload_n C dX5_isCovered_16 0 rfl rfl 17 rfl ?_
      refine k_get C dX5_isCovered_17 0 rfl (ci := 5) rfl hin_X5_isCovered_5 8 (by decide) (List.mem_of_getElem? (i := 2) rfl) rfl 20 rfl ?_
      refine k_aload_n C dX5_isCovered_20 0 rfl rfl 21 rfl ?_
      refine k_get C dX5_isCovered_21 0 rfl (ci := 5) rfl hin_X5_isCovered_5 6 (by decide) (List.mem_of_getElem? (i := 3) rfl) rfl 24 rfl ?_
      refine k_iload_n C dX5_isCovered_24 1 rfl rfl 25 rfl ?_
      have hM := c_X6_at (l := l) (D := D) (cI := cI) (cJ := cJ) (cZ := cZ) (qh 4) 10 (by decide) T_h.2.1 x1 _ h
      refine k_callNS C dX5_isCovered_25 hM gX5_isCovered_X6_at_n71 (List.mem_of_getElem? (i := 37) rfl) (List.mem_of_getElem? (i := 6) rfl) rfl sg_X6_at (List.mem_of_getElem? (i := 5) rfl) rfl (Nat.le_of_ble_eq_true rfl) ⟨⟨rfl, rfl⟩, by decide, by decide⟩ ⟨Nat.le_refl 0, Nat.le_refl 0⟩ [4] [0, 1, 2, 3, 5, 6, 7, 8] rfl rfl rfl rfl (by decide) 0 0 ⟨rfl, rfl⟩ 28 rfl (fun v w1 hq25 => ?_)
      obtain ⟨r25, rfl, rfl, h⟩ := hq25
      refine k_perm C [0, 1, 2, 3, 8, 4, 5, 6, 7] [.int (iI r25), .ref (qh 6)] ((wdW cI cJ cZ qh S_h T_h U_h)) rfl rfl rfl ?_
      refine k_iconst C dX5_isCovered_28 29 rfl ?_
      refine k_iadd C dX5_isCovered_29 30 rfl ?_
      refine k_aload_n C dX5_isCovered_30 0 rfl rfl 31 rfl ?_
      refine k_get C dX5_isCovered_31 0 rfl (ci := 5) rfl hin_X5_isCovered_5 7 (by decide) (List.mem_of_getElem? (i := 4) rfl) rfl 34 rfl ?_
      refine k_iload_n C dX5_isCovered_34 1 rfl rfl 35 rfl ?_
      have hM := c_X6_at (l := l) (D := D) (cI := cI) (cJ := cJ) (cZ := cZ) (qh 5) 10 (by decide) T_h.2.2.1 x1 _ h
      refine k_callNS C dX5_isCovered_35 hM gX5_isCovered_X6_at_n71 (List.mem_of_getElem? (i := 37) rfl) (List.mem_of_getElem? (i := 6) rfl) rfl sg_X6_at (List.mem_of_getElem? (i := 5) rfl) rfl (Nat.le_of_ble_eq_true rfl) ⟨⟨rfl, rfl⟩, by decide, by decide⟩ ⟨Nat.le_refl 0, Nat.le_refl 0⟩ [5] [0, 1, 2, 3, 4, 6, 7, 8] rfl rfl rfl rfl (by decide) 0 0 ⟨rfl, rfl⟩ 38 rfl (fun v w1 hq35 => ?_)
      obtain ⟨r35, rfl, rfl, h⟩ := hq35
      refine k_perm C [0, 1, 2, 3, 4, 8, 5, 6, 7] [.int (iI r35), .int (iI (r25 + 1)), .ref (qh 6)] ((wdW cI cJ cZ qh S_h T_h U_h)) rfl rfl rfl ?_
      refine k_iload_n C dX5_isCovered_38 3 rfl rfl 39 rfl ?_
      refine k_iadd C dX5_isCovered_39 40 rfl ?_
      have hM := c_X5_cellAt (l := l) (D := D) (cI := cI) (cJ := cJ) (cZ := cZ) (r25 + 1) (r35 + x3) _ h
      refine k_callS C dX5_isCovered_40 hM gX5_isCovered_X5_cellAt rfl sg_X5_cellAt rfl (Nat.le_of_ble_eq_true rfl) ⟨⟨rfl, rfl⟩, by decide, by decide⟩ ⟨Nat.le_refl 0, Nat.le_refl 0⟩ [] [0, 1, 2, 3, 4, 5, 6, 7, 8] rfl rfl rfl rfl (by decide) 0 0 ⟨rfl, rfl⟩ 43 rfl (fun v w1 hq40 => ?_)
      obtain ⟨r40, rfl, rfl, h⟩ := hq40
      refine k_perm C [0, 1, 2, 3, 4, 5, 6, 7, 8] [.int (iI r40), .ref (qh 6)] ((wdW cI cJ cZ qh S_h T_h U_h)) rfl rfl rfl ?_
      have hM := c_X6_at (l := l) (D := D) (cI := cI) (cJ := cJ) (cZ := cZ) (qh 6) 90 (by decide) T_h.2.2.2.1 r40 _ h
      refine k_callNS C dX5_isCovered_43 hM gX5_isCovered_X6_at_n71 (List.mem_of_getElem? (i := 37) rfl) (List.mem_of_getElem? (i := 6) rfl) rfl sg_X6_at (List.mem_of_getElem? (i := 5) rfl) rfl (Nat.le_of_ble_eq_true rfl) ⟨⟨rfl, rfl⟩, by decide, by decide⟩ ⟨Nat.le_refl 0, Nat.le_refl 0⟩ [6] [0, 1, 2, 3, 4, 5, 7, 8] rfl rfl rfl rfl (by decide) 0 0 ⟨rfl, rfl⟩ 46 rfl (fun v w1 hq43 => ?_)
      obtain ⟨r43, rfl, rfl, h⟩ := hq43
      refine k_perm C [0, 1, 2, 3, 4, 5, 8, 6, 7] [.int (iI r43)] ((wdW cI cJ cZ qh S_h T_h U_h)) rfl rfl rfl ?_
      obtain ⟨hr46a, h⟩ := h
      obtain ⟨ht, hf⟩ := h
      refine k_if_eq C dX5_isCovered_46 hr46a 51 49 (by decide) rfl (fun hc46 => ?_) (fun hc46 => ?_)
      · have h := ht hc46; clear ht hf
        refine k_iinc (j := 3) C dX5_isCovered_51 rfl (by decide) [(3, .int (iI (x3 + 1))), (0, .ref (qh 0)), (1, .int (iI x1)), (2, .int (iI x2))] rfl 54 rfl ?_
        refine k_goto C dX5_isCovered_54 11 (by decide) ?_
        refine k_lv C [1, 2, 3, 0] [(0, .ref (qh 0)), (1, .int (iI x1)), (2, .int (iI x2)), (3, .int (iI (x3 + 1)))] rfl ?_
        exact ih x1 x2 (x3 + 1) h hK_49 hK_57
      · have h := hf hc46; clear ht hf
        refine k_lv C [] [] rfl ?_
        exact hK_49 () h
set_option maxHeartbeats 4000000 in
set_option maxRecDepth 20000 in
theorem c_X5_isCovered {l : Launch} {D : va_G} {cI cJ cZ : ClassId} (qh : Nat → Nat) (S_h : gWS) (T_h : gWT) (U_h : gWU) (x1 : Int) (Q : Int → Prop) (h : wp_X5_isCovered S_h T_h x1 Q) : KM l D (kT cI cJ cZ) 0 0 yX5_isCovered wsX5_isCovered rm_X5_isCovered [.ref (qh 0), .int (iI x1)] ((wdW cI cJ cZ qh S_h T_h U_h)) (rp_X5_isCovered cI cJ cZ qh S_h T_h U_h Q) := by
  refine KM_intro (lv := [(0, .ref (qh 0)), (1, .int (iI x1))]) false rfl (by decide) (Nat.le_of_ble_eq_true rfl) rfl (fun h => absurd h (by decide)) (fun v ws hq => by obtain ⟨r, rfl, rfl, hb, _⟩ := hq; exact Or.inr (Or.inr (Or.inl ⟨rfl, by rcases hb with rfl | rfl; exact Or.inl rfl; exact Or.inr rfl⟩))) (fun A K C => ?_)
  refine k_aload_n C dX5_isCovered_0 0 rfl rfl 1 rfl ?_
  refine k_get C dX5_isCovered_1 0 rfl (ci := 5) rfl hin_X5_isCovered_5 3 (by decide) (List.mem_of_getElem? (i := 1) rfl) rfl 4 rfl ?_
  refine k_iload_n C dX5_isCovered_4 1 rfl rfl 5 rfl ?_
  have hM := c_X6_at (l := l) (D := D) (cI := cI) (cJ := cJ) (cZ := cZ) (qh 1) 10 (by decide) S_h.2.2.1 x1 _ h
  refine k_callNS C dX5_isCovered_5 hM gX5_isCovered_X6_at_n71 (List.mem_of_getElem? (i := 37) rfl) (List.mem_of_getElem? (i := 6) rfl) rfl sg_X6_at (List.mem_of_getElem? (i := 5) rfl) rfl (Nat.le_of_ble_eq_true rfl) ⟨⟨rfl, rfl⟩, by decide, by decide⟩ ⟨Nat.le_refl 0, Nat.le_refl 0⟩ [1] [0, 2, 3, 4, 5, 6, 7, 8] rfl rfl rfl rfl (by decide) 0 0 ⟨rfl, rfl⟩ 8 rfl (fun v w1 hq5 => ?_)
  obtain ⟨r5, rfl, rfl, h⟩ := hq5
  refine k_perm C [0, 8, 1, 2, 3, 4, 5, 6, 7] [.int (iI r5)] ((wdW cI cJ cZ qh S_h T_h U_h)) rfl rfl rfl ?_
  refine k_istore_n C dX5_isCovered_8 rfl (by decide) [(2, .int (iI r5)), (0, .ref (qh 0)), (1, .int (iI x1))] rfl 9 rfl ?_
  refine k_iconst C dX5_isCovered_9 10 rfl ?_
  refine k_istore_n C dX5_isCovered_10 rfl (by decide) [(3, .int (iI 0)), (2, .int (iI r5)), (0, .ref (qh 0)), (1, .int (iI x1))] rfl 11 rfl ?_
  refine k_lv C [2, 3, 1, 0] [(0, .ref (qh 0)), (1, .int (iI x1)), (2, .int (iI r5)), (3, .int (iI 0))] rfl ?_
  obtain ⟨m11, h⟩ := h
  refine w_X5_isCovered_11 C m11 x1 r5 0 h (fun _ h => ?_) (fun _ h => ?_)
  · refine k_iconst C dX5_isCovered_49 50 rfl ?_
    exact k_iret C dX5_isCovered_50 ⟨1, rfl, rfl, (by decide), h⟩
  · refine k_iconst C dX5_isCovered_57 58 rfl ?_
    exact k_iret C dX5_isCovered_58 ⟨0, rfl, rfl, (by decide), h⟩

/-! X5_take -/
abbrev rm_X5_take : Room := { frames := 3, cells := 0, slots := 0, locals := 69 }
theorem sg_X5_take : yX5_take.cls ≠ "java/lang/invoke/MethodHandle" ∧ yX5_take.cls ≠ "java/lang/invoke/VarHandle" ∧ (parseMethodDescriptor yX5_take.desc).map (fun d => d.parameters.length) = some 1 := by decide +kernel
def rp_X5_take (cI cJ cZ : ClassId) (qh : Nat → Nat) (S_h : gWS) (U_h : gWU) (Q : Int → gWT → Prop) : Option Value → va_W → Prop := fun v w1 => ∃ (r : Int) (T_h : gWT), v = some (.int (iI r)) ∧ w1 = (wdW cI cJ cZ qh S_h T_h U_h) ∧ Q r T_h
def wp_X5_take (S_h : gWS) (T_h : gWT) (x1 : Int) (Q : Int → gWT → Prop) : Prop :=
    wp_X5_isLaid T_h x1 (fun (r2 : Int) => ((¬ r2 = 0 → wp_X5_isCovered S_h T_h x1 (fun (r12 : Int) => ((r12 = 0 → wp_X5_lift S_h T_h x1 (fun (T_h_22 : gWT) => Q 0 T_h_22)) ∧ (¬ (r12 = 0) → Q 5 T_h)))) ∧ (¬ (¬ r2 = 0) → Q 1 T_h)))

set_option maxHeartbeats 4000000 in
set_option maxRecDepth 20000 in
theorem c_X5_take {l : Launch} {D : va_G} {cI cJ cZ : ClassId} (qh : Nat → Nat) (S_h : gWS) (T_h : gWT) (U_h : gWU) (x1 : Int) (Q : Int → gWT → Prop) (h : wp_X5_take S_h T_h x1 Q) : KM l D (kT cI cJ cZ) 0 0 yX5_take wsX5_take rm_X5_take [.ref (qh 0), .int (iI x1)] ((wdW cI cJ cZ qh S_h T_h U_h)) (rp_X5_take cI cJ cZ qh S_h U_h Q) := by
  refine KM_intro (lv := [(0, .ref (qh 0)), (1, .int (iI x1))]) false rfl (by decide) (Nat.le_of_ble_eq_true rfl) rfl (fun h => absurd h (by decide)) (fun v ws hq => by obtain ⟨r, T_h, rfl, rfl, _⟩ := hq; exact Or.inr (Or.inl ⟨rfl, _, rfl⟩)) (fun A K C => ?_)
  refine k_aload_n C dX5_take_0 0 rfl rfl 1 rfl ?_
  refine k_iload_n C dX5_take_1 1 rfl rfl 2 rfl ?_
  have hM := c_X5_isLaid (l := l) (D := D) (cI := cI) (cJ := cJ) (cZ := cZ) qh S_h T_h U_h x1 _ h
  refine k_callV C dX5_take_2 hM gX5_take_X5_isLaid rfl sg_X5_isLaid 5 rfl rfl rfl (Nat.le_of_ble_eq_true rfl) ⟨⟨rfl, rfl⟩, by decide, by decide⟩ ⟨Nat.le_refl 0, Nat.le_refl 0⟩ [0, 1, 2, 3, 4, 5, 6, 7, 8] [] rfl rfl rfl rfl (by decide) 0 0 ⟨rfl, rfl⟩ 5 rfl (fun v w1 hq2 => ?_)
  obtain ⟨r2, rfl, rfl, hb2, h⟩ := hq2
  refine k_perm C [0, 1, 2, 3, 4, 5, 6, 7, 8] [.int (iI r2)] ((wdW cI cJ cZ qh S_h T_h U_h)) rfl rfl rfl ?_
  obtain ⟨ht, hf⟩ := h
  refine k_if_ne C dX5_take_5 (by rcases hb2 with rfl | rfl <;> decide) 10 8 (by decide) rfl (fun hc5 => ?_) (fun hc5 => ?_)
  · have h := ht hc5; clear ht hf
    refine k_aload_n C dX5_take_10 0 rfl rfl 11 rfl ?_
    refine k_iload_n C dX5_take_11 1 rfl rfl 12 rfl ?_
    have hM := c_X5_isCovered (l := l) (D := D) (cI := cI) (cJ := cJ) (cZ := cZ) qh S_h T_h U_h x1 _ h
    refine k_callV C dX5_take_12 hM gX5_take_X5_isCovered rfl sg_X5_isCovered 5 rfl rfl rfl (Nat.le_of_ble_eq_true rfl) ⟨⟨rfl, rfl⟩, by decide, by decide⟩ ⟨Nat.le_refl 0, Nat.le_refl 0⟩ [0, 1, 2, 3, 4, 5, 6, 7, 8] [] rfl rfl rfl rfl (by decide) 0 0 ⟨rfl, rfl⟩ 15 rfl (fun v w1 hq12 => ?_)
    obtain ⟨r12, rfl, rfl, hb12, h⟩ := hq12
    refine k_perm C [0, 1, 2, 3, 4, 5, 6, 7, 8] [.int (iI r12)] ((wdW cI cJ cZ qh S_h T_h U_h)) rfl rfl rfl ?_
    obtain ⟨ht, hf⟩ := h
    refine k_if_eq C dX5_take_15 (by rcases hb12 with rfl | rfl <;> decide) 20 18 (by decide) rfl (fun hc15 => ?_) (fun hc15 => ?_)
    · have h := ht hc15; clear ht hf
      refine k_aload_n C dX5_take_20 0 rfl rfl 21 rfl ?_
      refine k_iload_n C dX5_take_21 1 rfl rfl 22 rfl ?_
      have hM := c_X5_lift (l := l) (D := D) (cI := cI) (cJ := cJ) (cZ := cZ) qh S_h T_h U_h x1 _ h
      refine k_callV C dX5_take_22 hM gX5_take_X5_lift rfl sg_X5_lift 5 rfl rfl rfl (Nat.le_of_ble_eq_true rfl) ⟨⟨rfl, rfl⟩, by decide, by decide⟩ ⟨Nat.le_refl 0, Nat.le_refl 0⟩ [0, 1, 2, 3, 4, 5, 6, 7, 8] [] rfl rfl rfl rfl (by decide) 0 0 ⟨rfl, rfl⟩ 25 rfl (fun v w1 hq22 => ?_)
      obtain ⟨T_h_22, rfl, rfl, h⟩ := hq22
      refine k_perm C [0, 1, 2, 3, 4, 5, 6, 7, 8] [] ((wdW cI cJ cZ qh S_h T_h_22 U_h)) rfl rfl rfl ?_
      refine k_iconst C dX5_take_25 26 rfl ?_
      exact k_iret C dX5_take_26 ⟨0, T_h_22, rfl, rfl, h⟩
    · have h := hf hc15; clear ht hf
      refine k_iconst C dX5_take_18 19 rfl ?_
      exact k_iret C dX5_take_19 ⟨5, T_h, rfl, rfl, h⟩
  · have h := hf hc5; clear ht hf
    refine k_iconst C dX5_take_8 9 rfl ?_
    exact k_iret C dX5_take_9 ⟨1, T_h, rfl, rfl, h⟩
