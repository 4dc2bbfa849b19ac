/-! X7_clear -/
abbrev rm_X7_clear : Room := { frames := 0, cells := 0, slots := 0, locals := 0 }
theorem sg_X7_clear : yX7_clear.cls ≠ "java/lang/invoke/MethodHandle" ∧ yX7_clear.cls ≠ "java/lang/invoke/VarHandle" ∧ (parseMethodDescriptor yX7_clear.desc).map (fun d => d.parameters.length) = some 0 := by decide +kernel
theorem hin_X7_clear_7 : ∀ w ∈ wsX70, w ∈ wsX7_clear := fun _ h => List.mem_cons_of_mem _ (List.mem_append_right _ h)
def rp_X7_clear (cI cJ cZ : ClassId) (qh : Nat → Nat) (N_h : gMN) (L_h : gML) (E_h : gME) (V_h : gMV) (D_h : gMD) (O_h : gMO) (Z_h : gMZ) (R_h : gMR) (I_h : gMI) (Q : gMB → gMP → gMG → Prop) : Option Value → va_W → Prop := fun v w1 => ∃ (B_h : gMB) (P_h : gMP) (G_h : gMG), v = none ∧ w1 = (wdM cI cJ cZ qh B_h P_h N_h L_h E_h V_h G_h D_h O_h Z_h R_h I_h) ∧ Q B_h P_h G_h
def wp_X7_clear_12 (K_40 : gMB → gMP → gMG → Prop)  (Q : gMB → gMP → gMG → Prop) : Nat → Int → gMB → gMP → gMG → Prop
  | 0, _, _, _, _ => False
  | n12 + 1, x1, B_h, P_h, G_h =>
    rI x1 ∧ ((10 ≤ x1 → K_40 B_h P_h G_h) ∧ (¬ (10 ≤ x1) → (0 ≤ x1 ∧ x1 < 10) ∧ wp_X7_clear_12 K_40 Q n12 (x1 + 1) B_h (aset P_h.1 x1 (-6), aset P_h.2 x1 (-6)) G_h))
def wp_X7_clear (B_h : gMB) (P_h : gMP) (G_h : gMG) (Q : gMB → gMP → gMG → Prop) : Prop :=
    ∃ m12, wp_X7_clear_12 (fun (B_h : gMB) (P_h : gMP) (G_h : gMG) => Q B_h P_h G_h) Q m12 0 (B_h.1, 0, B_h.2.2.1, B_h.2.2.2.1, B_h.2.2.2.2) P_h (0, G_h.2)
set_option maxHeartbeats 4000000 in
set_option maxRecDepth 20000 in
theorem w_X7_clear_12 {l : Launch} {D : va_G} {cI cJ cZ : ClassId} {A : Nat → Prop} {K : KT} {qh : Nat → Nat} {N_h : gMN} {L_h : gML} {E_h : gME} {V_h : gMV} {D_h : gMD} {O_h : gMO} {Z_h : gMZ} {R_h : gMR} {I_h : gMI} {Q : gMB → gMP → gMG → Prop} {K_40 : gMB → gMP → gMG → Prop} (C : KC cX7_clear yX7_clear.cls wsX7_clear rm_X7_clear 2 D (kT cI cJ cZ) A l false (rp_X7_clear cI cJ cZ qh N_h L_h E_h V_h D_h O_h Z_h R_h I_h Q) 0 0 K) : ∀ (n : Nat) (x1 : Int) (B_h : gMB) (P_h : gMP) (G_h : gMG), wp_X7_clear_12 K_40 Q n x1 B_h P_h G_h → (∀ (B_h : gMB) (P_h : gMP) (G_h : gMG), K_40 B_h P_h G_h → K 0 0 40 [] [] ((wdM cI cJ cZ qh B_h P_h N_h L_h E_h V_h G_h D_h O_h Z_h R_h I_h))) → K 0 0 12 [(0, .ref (qh 0)), (1, .int (iI x1))] [] ((wdM cI cJ cZ qh B_h P_h N_h L_h E_h V_h G_h D_h O_h Z_h R_h I_h)) := by
  intro n
  induction n with
  | zero => intro x1 B_h P_h G_h h; exact h.elim
  | succ n ih =>
    intro x1 B_h P_h G_h h hK_40
    refine k_iload_n C dX7_clear_12 1 rfl rfl 13 rfl ?_
    refine k_bipush C dX7_clear_13 (by decide) 15 rfl ?_
    obtain ⟨hr15a, h⟩ := h
    obtain ⟨ht, hf⟩ := h
    refine k_icmp_ge C dX7_clear_15 ⟨hr15a, (by decide)⟩ 40 18 (by decide) rfl (fun hc15 => ?_) (fun hc15 => ?_)
    · have h := ht hc15; clear ht hf
      refine k_lv C [] [] rfl ?_
      exact hK_40 B_h P_h G_h h
    · have h := hf hc15; clear ht hf
      refine k_aload_n C dX7_clear_18 0 rfl rfl 19 rfl ?_
      refine k_get C dX7_clear_19 0 rfl (ci := 7) rfl hin_X7_clear_7 5 (by decide) (List.mem_of_getElem? (i := 3) rfl) rfl 22 rfl ?_
      refine k_iload_n C dX7_clear_22 1 rfl rfl 23 rfl ?_
      refine k_bipush C dX7_clear_23 (by decide) 25 rfl ?_
      obtain ⟨hi25, h⟩ := h
      refine k_iastore C dX7_clear_25 4 0 rfl rfl (by decide) hi25 ((wdM cI cJ cZ qh B_h (aset P_h.1 x1 (-6), P_h.2) N_h L_h E_h V_h G_h D_h O_h Z_h R_h I_h)) rfl 26 rfl ?_
      refine k_aload_n C dX7_clear_26 0 rfl rfl 27 rfl ?_
      refine k_get C dX7_clear_27 0 rfl (ci := 7) rfl hin_X7_clear_7 6 (by decide) (List.mem_of_getElem? (i := 4) rfl) rfl 30 rfl ?_
      refine k_iload_n C dX7_clear_30 1 rfl rfl 31 rfl ?_
      refine k_bipush C dX7_clear_31 (by decide) 33 rfl ?_
      refine k_iastore C dX7_clear_33 5 0 rfl rfl (by decide) hi25 ((wdM cI cJ cZ qh B_h (aset P_h.1 x1 (-6), aset P_h.2 x1 (-6)) N_h L_h E_h V_h G_h D_h O_h Z_h R_h I_h)) rfl 34 rfl ?_
      refine k_iinc (j := 1) C dX7_clear_34 rfl (by decide) [(1, .int (iI (x1 + 1))), (0, .ref (qh 0))] rfl 37 rfl ?_
      refine k_goto C dX7_clear_37 12 (by decide) ?_
      refine k_lv C [1, 0] [(0, .ref (qh 0)), (1, .int (iI (x1 + 1)))] rfl ?_
      exact ih (x1 + 1) B_h (aset P_h.1 x1 (-6), aset P_h.2 x1 (-6)) G_h h hK_40
set_option maxHeartbeats 4000000 in
set_option maxRecDepth 20000 in
theorem c_X7_clear {l : Launch} {D : va_G} {cI cJ cZ : ClassId} (qh : Nat → Nat) (B_h : gMB) (P_h : gMP) (N_h : gMN) (L_h : gML) (E_h : gME) (V_h : gMV) (G_h : gMG) (D_h : gMD) (O_h : gMO) (Z_h : gMZ) (R_h : gMR) (I_h : gMI) (Q : gMB → gMP → gMG → Prop) (h : wp_X7_clear B_h P_h G_h Q) : KM l D (kT cI cJ cZ) 0 0 yX7_clear wsX7_clear rm_X7_clear [.ref (qh 0)] ((wdM cI cJ cZ qh B_h P_h N_h L_h E_h V_h G_h D_h O_h Z_h R_h I_h)) (rp_X7_clear cI cJ cZ qh N_h L_h E_h V_h D_h O_h Z_h R_h I_h Q) := by
  refine KM_intro (lv := [(0, .ref (qh 0))]) false rfl (by decide) (Nat.le_of_ble_eq_true rfl) rfl (fun h => absurd h (by decide)) (fun v ws hq => by obtain ⟨B_h, P_h, G_h, rfl, rfl, _⟩ := hq; exact Or.inl ⟨rfl, rfl⟩) (fun A K C => ?_)
  refine k_aload_n C dX7_clear_0 0 rfl rfl 1 rfl ?_
  refine k_iconst C dX7_clear_1 2 rfl ?_
  refine k_put C dX7_clear_2 0 rfl (ci := 7) rfl hin_X7_clear_7 tyX7_ok nmX7 1 (by decide) (List.mem_of_getElem? (i := 1) rfl) rfl rfl rfl (Nat.le_of_ble_eq_true rfl) ((wdM cI cJ cZ qh (B_h.1, 0, B_h.2.2.1, B_h.2.2.2.1, B_h.2.2.2.2) P_h N_h L_h E_h V_h G_h D_h O_h Z_h R_h I_h)) rfl 5 rfl ?_
  refine k_aload_n C dX7_clear_5 0 rfl rfl 6 rfl ?_
  refine k_iconst C dX7_clear_6 7 rfl ?_
  refine k_put C dX7_clear_7 0 rfl (ci := 7) rfl hin_X7_clear_7 tyX7_ok nmX7 7 (by decide) (List.mem_of_getElem? (i := 2) rfl) rfl rfl rfl (Nat.le_of_ble_eq_true rfl) ((wdM cI cJ cZ qh (B_h.1, 0, B_h.2.2.1, B_h.2.2.2.1, B_h.2.2.2.2) P_h N_h L_h E_h V_h (0, G_h.2) D_h O_h Z_h R_h I_h)) rfl 10 rfl ?_
  refine k_iconst C dX7_clear_10 11 rfl ?_
  refine k_istore_n C dX7_clear_11 rfl (by decide) [(1, .int (iI 0)), (0, .ref (qh 0))] rfl 12 rfl ?_
  refine k_lv C [1, 0] [(0, .ref (qh 0)), (1, .int (iI 0))] rfl ?_
  obtain ⟨m12, h⟩ := h
  refine w_X7_clear_12 C m12 0 (B_h.1, 0, B_h.2.2.1, B_h.2.2.2.1, B_h.2.2.2.2) P_h (0, G_h.2) h (fun B_h P_h G_h h => ?_)
  · exact k_vret C dX7_clear_40 ⟨B_h, P_h, G_h, rfl, rfl, h⟩

/-! X7_in -/
abbrev rm_X7_in : Room := { frames := 0, cells := 0, slots := 0, locals := 0 }
theorem sg_X7_in : yX7_in.cls ≠ "java/lang/invoke/MethodHandle" ∧ yX7_in.cls ≠ "java/lang/invoke/VarHandle" ∧ (parseMethodDescriptor yX7_in.desc).map (fun d => d.parameters.length) = some 3 := by decide +kernel
def rp_X7_in (cI cJ cZ : ClassId) (Q : Int → Prop) : Option Value → va_W → Prop := fun v w1 => ∃ (r : Int), v = some (.int (iI r)) ∧ w1 = ([] : va_W) ∧ (r = 0 ∨ r = 1) ∧ Q r
def wp_X7_in (x0 : Int) (x1 : Int) (x2 : Int) (Q : Int → Prop) : Prop :=
    rI x0 ∧ rI x1 ∧ ((x0 < x1 → Q 0) ∧ (¬ (x0 < x1) → rI x2 ∧ ((x2 < x0 → Q 0) ∧ (¬ (x2 < x0) → Q 1))))

set_option maxHeartbeats 4000000 in
set_option maxRecDepth 20000 in
theorem c_X7_in {l : Launch} {D : va_G} {cI cJ cZ : ClassId} (x0 : Int) (x1 : Int) (x2 : Int) (Q : Int → Prop) (h : wp_X7_in x0 x1 x2 Q) : KM l D (kT cI cJ cZ) 0 0 yX7_in wsX7_in rm_X7_in [.int (iI x0), .int (iI x1), .int (iI x2)] (([] : va_W)) (rp_X7_in cI cJ cZ Q) := by
  refine KM_intro (lv := [(0, .int (iI x0)), (1, .int (iI x1)), (2, .int (iI x2))]) false rfl (by decide) (Nat.le_of_ble_eq_true rfl) rfl (fun h => absurd h (by decide)) (fun v ws hq => by obtain ⟨r, rfl, rfl, hb, _⟩ := hq; exact Or.inr (Or.inr (Or.inl ⟨rfl, by rcases hb with rfl | rfl; exact Or.inl rfl; exact Or.inr rfl⟩))) (fun A K C => ?_)
  refine k_iload_n C dX7_in_0 0 rfl rfl 1 rfl ?_
  refine k_iload_n C dX7_in_1 1 rfl rfl 2 rfl ?_
  obtain ⟨hr2a, hr2b, h⟩ := h
  obtain ⟨ht, hf⟩ := h
  refine k_icmp_lt C dX7_in_2 ⟨hr2a, hr2b⟩ 14 5 (by decide) rfl (fun hc2 => ?_) (fun hc2 => ?_)
  · have h := ht hc2; clear ht hf
    refine k_iconst C dX7_in_14 15 rfl ?_
    exact k_iret C dX7_in_15 ⟨0, rfl, rfl, (by decide), h⟩
  · have h := hf hc2; clear ht hf
    refine k_iload_n C dX7_in_5 0 rfl rfl 6 rfl ?_
    refine k_iload_n C dX7_in_6 2 rfl rfl 7 rfl ?_
    obtain ⟨hr7a, h⟩ := h
    obtain ⟨ht, hf⟩ := h
    refine k_icmp_gt C dX7_in_7 ⟨hr2a, hr7a⟩ 14 10 (by decide) rfl (fun hc7 => ?_) (fun hc7 => ?_)
    · have h := ht hc7; clear ht hf
      refine k_iconst C dX7_in_14 15 rfl ?_
      exact k_iret C dX7_in_15 ⟨0, rfl, rfl, (by decide), h⟩
    · have h := hf hc7; clear ht hf
      refine k_iconst C dX7_in_10 11 rfl ?_
      refine k_goto C dX7_in_11 15 (by decide) ?_
      exact k_iret C dX7_in_15 ⟨1, rfl, rfl, (by decide), h⟩

/-! X7_has -/
abbrev rm_X7_has : Room := { frames := 0, cells := 0, slots := 0, locals := 0 }
theorem sg_X7_has : yX7_has.cls ≠ "java/lang/invoke/MethodHandle" ∧ yX7_has.cls ≠ "java/lang/invoke/VarHandle" ∧ (parseMethodDescriptor yX7_has.desc).map (fun d => d.parameters.length) = some 2 := by decide +kernel
def rp_X7_has (cI cJ cZ : ClassId) (Q : Int → Prop) : Option Value → va_W → Prop := fun v w1 => ∃ (r : Int), v = some (.int (iI r)) ∧ w1 = ([] : va_W) ∧ (r = 0 ∨ r = 1) ∧ Q r
def wp_X7_has (x0 : Int) (x1 : Int) (Q : Int → Prop) : Prop :=
    rI (iand (ishr x0 x1) 1) ∧ ((¬ (iand (ishr x0 x1) 1) = 1 → Q 0) ∧ (¬ (¬ (iand (ishr x0 x1) 1) = 1) → Q 1))

set_option maxHeartbeats 4000000 in
set_option maxRecDepth 20000 in
theorem c_X7_has {l : Launch} {D : va_G} {cI cJ cZ : ClassId} (x0 : Int) (x1 : Int) (Q : Int → Prop) (h : wp_X7_has x0 x1 Q) : KM l D (kT cI cJ cZ) 0 0 yX7_has wsX7_has rm_X7_has [.int (iI x0), .int (iI x1)] (([] : va_W)) (rp_X7_has cI cJ cZ Q) := by
  refine KM_intro (lv := [(0, .int (iI x0)), (1, .int (iI x1))]) false rfl (by decide) (Nat.le_of_ble_eq_true rfl) rfl (fun h => absurd h (by decide)) (fun v ws hq => by obtain ⟨r, rfl, rfl, hb, _⟩ := hq; exact Or.inr (Or.inr (Or.inl ⟨rfl, by rcases hb with rfl | rfl; exact Or.inl rfl; exact Or.inr rfl⟩))) (fun A K C => ?_)
  refine k_iload_n C dX7_has_0 0 rfl rfl 1 rfl ?_
  refine k_iload_n C dX7_has_1 1 rfl rfl 2 rfl ?_
  refine k_ishr C dX7_has_2 3 rfl ?_
  refine k_iconst C dX7_has_3 4 rfl ?_
  refine k_iand C dX7_has_4 5 rfl ?_
  refine k_iconst C dX7_has_5 6 rfl ?_
  obtain ⟨hr6a, h⟩ := h
  obtain ⟨ht, hf⟩ := h
  refine k_icmp_ne C dX7_has_6 ⟨hr6a, (by decide)⟩ 13 9 (by decide) rfl (fun hc6 => ?_) (fun hc6 => ?_)
  · have h := ht hc6; clear ht hf
    refine k_iconst C dX7_has_13 14 rfl ?_
    exact k_iret C dX7_has_14 ⟨0, rfl, rfl, (by decide), h⟩
  · have h := hf hc6; clear ht hf
    refine k_iconst C dX7_has_9 10 rfl ?_
    refine k_goto C dX7_has_10 14 (by decide) ?_
    exact k_iret C dX7_has_14 ⟨1, rfl, rfl, (by decide), h⟩

/-! X7_bits -/
abbrev rm_X7_bits : Room := { frames := 0, cells := 0, slots := 0, locals := 0 }
theorem sg_X7_bits : yX7_bits.cls ≠ "java/lang/invoke/MethodHandle" ∧ yX7_bits.cls ≠ "java/lang/invoke/VarHandle" ∧ (parseMethodDescriptor yX7_bits.desc).map (fun d => d.parameters.length) = some 1 := by decide +kernel
def rp_X7_bits (cI cJ cZ : ClassId) (Q : Int → Prop) : Option Value → va_W → Prop := fun v w1 => ∃ (r : Int), v = some (.int (iI r)) ∧ w1 = ([] : va_W) ∧ Q r
def wp_X7_bits_4 (K_24 : Int → Prop)  (Q : Int → Prop) : Nat → Int → Int → Int → Prop
  | 0, _, _, _ => False
  | n4 + 1, x0, x1, x2 =>
    rI x2 ∧ ((10 ≤ x2 → K_24 x1) ∧ (¬ (10 ≤ x2) → wp_X7_bits_4 K_24 Q n4 x0 (x1 + (iand (ishr x0 x2) 1)) (x2 + 1)))
def wp_X7_bits (x0 : Int) (Q : Int → Prop) : Prop :=
    ∃ m4, wp_X7_bits_4 (fun (x1 : Int) => Q x1) Q m4 x0 0 0
set_option maxHeartbeats 4000000 in
set_option maxRecDepth 20000 in
theorem w_X7_bits_4 {l : Launch} {D : va_G} {cI cJ cZ : ClassId} {A : Nat → Prop} {K : KT} {Q : Int → Prop} {K_24 : Int → Prop} (C : KC cX7_bits yX7_bits.cls wsX7_bits rm_X7_bits 3 D (kT cI cJ cZ) A l false (rp_X7_bits cI cJ cZ Q) 0 0 K) : ∀ (n : Nat) (x0 : Int) (x1 : Int) (x2 : Int), wp_X7_bits_4 K_24 Q n x0 x1 x2 → (∀ (x1 : Int), K_24 x1 → K 0 0 24 [(1, .int (iI x1))] [] (([] : va_W))) → K 0 0 4 [(0, .int (iI x0)), (1, .int (iI x1)), (2, .int (iI x2))] [] (([] : va_W)) := by
  intro n
  induction n with
  | zero => intro x0 x1 x2 h; exact h.elim
  | succ n ih =>
    intro x0 x1 x2 h hK_24
    refine k_iload_n C dX7_bits_4 2 rfl rfl 5 rfl ?_
    refine k_bipush C dX7_bits_5 (by decide) 7 rfl ?_
    obtain ⟨hr7a, h⟩ := h
    obtain ⟨ht, hf⟩ := h
    refine k_icmp_ge C dX7_bits_7 ⟨hr7a, (by decide)⟩ 24 10 (by decide) rfl (fun hc7 => ?_) (fun hc7 => ?_)
    · have h := ht hc7; clear ht hf
      refine k_lv C [1] [(1, .int (iI x1))] rfl ?_
      exact hK_24 x1 h
    · have h := hf hc7; clear ht hf
      refine k_iload_n C dX7_bits_10 1 rfl rfl 11 rfl ?_
      refine k_iload_n C dX7_bits_11 0 rfl rfl 12 rfl ?_
      refine k_iload_n C dX7_bits_12 2 rfl rfl 13 rfl ?_
      refine k_ishr C dX7_bits_13 14 rfl ?_
      refine k_iconst C dX7_bits_14 15 rfl ?_
      refine k_iand C dX7_bits_15 16 rfl ?_
      refine k_iadd C dX7_bits_16 17 rfl ?_
      refine k_istore_n C dX7_bits_17 rfl (by decide) [(1, .int (iI (x1 + (iand (ishr x0 x2) 1)))), (0, .int (iI x0)), (2, .int (iI x2))] rfl 18 rfl ?_
      refine k_iinc (j := 2) C dX7_bits_18 rfl (by decide) [(2, .int (iI (x2 + 1))), (1, .int (iI (x1 + (iand (ishr x0 x2) 1)))), (0, .int (iI x0))] rfl 21 rfl ?_
      refine k_goto C dX7_bits_21 4 (by decide) ?_
      refine k_lv C [2, 1, 0] [(0, .int (iI x0)), (1, .int (iI (x1 + (iand (ishr x0 x2) 1)))), (2, .int (iI (x2 + 1)))] rfl ?_
      exact ih x0 (x1 + (iand (ishr x0 x2) 1)) (x2 + 1) h hK_24
set_option maxHeartbeats 4000000 in
set_option maxRecDepth 20000 in
theorem c_X7_bits {l : Launch} {D : va_G} {cI cJ cZ : ClassId} (x0 : Int) (Q : Int → Prop) (h : wp_X7_bits x0 Q) : KM l D (kT cI cJ cZ) 0 0 yX7_bits wsX7_bits rm_X7_bits [.int (iI x0)] (([] : va_W)) (rp_X7_bits cI cJ cZ Q) := by
  refine KM_intro (lv := [(0, .int (iI x0))]) false rfl (by decide) (Nat.le_of_ble_eq_true rfl) rfl (fun h => absurd h (by decide)) (fun v ws hq => by obtain ⟨r, rfl, rfl, _⟩ := hq; exact Or.inr (Or.inl ⟨rfl, _, rfl⟩)) (fun A K C => ?_)
  refine k_iconst C dX7_bits_0 1 rfl ?_
  refine k_istore_n C dX7_bits_1 rfl (by decide) [(1, .int (iI 0)), (0, .int (iI x0))] rfl 2 rfl ?_
  refine k_iconst C dX7_bits_2 3 rfl ?_
  refine k_istore_n C dX7_bits_3 rfl (by decide) [(2, .int (iI 0)), (1, .int (iI 0)), (0, .int (iI x0))] rfl 4 rfl ?_
  refine k_lv C [2, 1, 0] [(0, .int (iI x0)), (1, .int (iI 0)), (2, .int (iI 0))] rfl ?_
  obtain ⟨m4, h⟩ := h
  refine w_X7_bits_4 C m4 x0 0 0 h (fun x1 h => ?_)
  · refine k_iload_n C dX7_bits_24 0 rfl rfl 25 rfl ?_
    exact k_iret C dX7_bits_25 ⟨x1, rfl, rfl, h⟩

/-! X7_wall -/
abbrev rm_X7_wall : Room := { frames := 1, cells := 0, slots := 0, locals := 22 }
theorem sg_X7_wall : yX7_wall.cls ≠ "java/lang/invoke/MethodHandle" ∧ yX7_wall.cls ≠ "java/lang/invoke/VarHandle" ∧ (parseMethodDescriptor yX7_wall.desc).map (fun d => d.parameters.length) = some 1 := by decide +kernel
theorem hin_X7_wall_7 : ∀ w ∈ wsX70, w ∈ wsX7_wall := fun _ h => List.mem_cons_of_mem _ (List.mem_append_right _ h)
def rp_X7_wall (cI cJ cZ : ClassId) (qh : Nat → Nat) (N_h : gMN) (L_h : gML) (E_h : gME) (V_h : gMV) (D_h : gMD) (O_h : gMO) (Z_h : gMZ) (R_h : gMR) (I_h : gMI) (Q : Int → gMB → gMP → gMG → Prop) : Option Value → va_W → Prop := fun v w1 => ∃ (r : Int) (B_h : gMB) (P_h : gMP) (G_h : gMG), v = some (.int (iI r)) ∧ w1 = (wdM cI cJ cZ qh B_h P_h N_h L_h E_h V_h G_h D_h O_h Z_h R_h I_h) ∧ Q r B_h P_h G_h
def wp_X7_wall (B_h : gMB) (P_h : gMP) (G_h : gMG) (x1 : Int) (Q : Int → gMB → gMP → gMG → Prop) : Prop :=
    wp_X7_in x1 2 9 (fun (r4 : Int) => ((¬ r4 = 0 → wp_X7_clear (x1, B_h.2.1, B_h.2.2.1, B_h.2.2.2.1, B_h.2.2.2.2) P_h G_h (fun (B_h_24 : gMB) (P_h_24 : gMP) (G_h_24 : gMG) => Q B_h.1 B_h_24 P_h_24 G_h_24)) ∧ (¬ (¬ r4 = 0) → Q (-2) B_h P_h G_h)))

set_option maxHeartbeats 4000000 in
set_option maxRecDepth 20000 in
theorem c_X7_wall {l : Launch} {D : va_G} {cI cJ cZ : ClassId} (qh : Nat → Nat) (B_h : gMB) (P_h : gMP) (N_h : gMN) (L_h : gML) (E_h : gME) (V_h : gMV) (G_h : gMG) (D_h : gMD) (O_h : gMO) (Z_h : gMZ) (R_h : gMR) (I_h : gMI) (x1 : Int) (Q : Int → gMB → gMP → gMG → Prop) (h : wp_X7_wall B_h P_h G_h x1 Q) : KM l D (kT cI cJ cZ) 0 0 yX7_wall wsX7_wall rm_X7_wall [.ref (qh 0), .int (iI x1)] ((wdM cI cJ cZ qh B_h P_h N_h L_h E_h V_h G_h D_h O_h Z_h R_h I_h)) (rp_X7_wall cI cJ cZ qh N_h L_h E_h V_h D_h O_h Z_h R_h I_h Q) := by
  refine KM_intro (lv := [(0, .ref (qh 0)), (1, .int (iI x1))]) false rfl (by decide) (Nat.le_of_ble_eq_true rfl) rfl (fun h => absurd h (by decide)) (fun v ws hq => by obtain ⟨r, B_h, P_h, G_h, rfl, rfl, _⟩ := hq; exact Or.inr (Or.inl ⟨rfl, _, rfl⟩)) (fun A K C => ?_)
  refine k_iload_n C dX7_wall_0 1 rfl rfl 1 rfl ?_
  refine k_iconst C dX7_wall_1 2 rfl ?_
  refine k_bipush C dX7_wall_2 (by decide) 4 rfl ?_
  have hM := c_X7_in (l := l) (D := D) (cI := cI) (cJ := cJ) (cZ := cZ) x1 2 9 _ h
  refine k_callS C dX7_wall_4 hM gX7_wall_X7_in rfl sg_X7_in rfl (Nat.le_of_ble_eq_true rfl) ⟨⟨rfl, rfl⟩, by decide, by decide⟩ ⟨Nat.le_refl 0, Nat.le_refl 0⟩ [] [0, 1, 2, 3, 4, 5, 6, 7, 8, 9, 10, 11, 12, 13, 14, 15, 16] rfl rfl rfl rfl (by decide) 0 0 ⟨rfl, rfl⟩ 7 rfl (fun v w1 hq4 => ?_)
  obtain ⟨r4, rfl, rfl, hb4, h⟩ := hq4
  refine k_perm C [0, 1, 2, 3, 4, 5, 6, 7, 8, 9, 10, 11, 12, 13, 14, 15, 16] [.int (iI r4)] ((wdM cI cJ cZ qh B_h P_h N_h L_h E_h V_h G_h D_h O_h Z_h R_h I_h)) rfl rfl rfl ?_
  obtain ⟨ht, hf⟩ := h
  refine k_if_ne C dX7_wall_7 (by rcases hb4 with rfl | rfl <;> decide) 13 10 (by decide) rfl (fun hc7 => ?_) (fun hc7 => ?_)
  · have h := ht hc7; clear ht hf
    refine k_aload_n C dX7_wall_13 0 rfl rfl 14 rfl ?_
    refine k_get C dX7_wall_14 0 rfl (ci := 7) rfl hin_X7_wall_7 0 (by decide) (List.mem_of_getElem? (i := 1) rfl) rfl 17 rfl ?_
    refine k_istore_n C dX7_wall_17 rfl (by decide) [(2, .int (iI B_h.1)), (0, .ref (qh 0)), (1, .int (iI x1))] rfl 18 rfl ?_
    refine k_aload_n C dX7_wall_18 1 rfl rfl 19 rfl ?_
    refine k_iload_n C dX7_wall_19 2 rfl rfl 20 rfl ?_
    refine k_put C dX7_wall_20 0 rfl (ci := 7) rfl hin_X7_wall_7 tyX7_ok nmX7 0 (by decide) (List.mem_of_getElem? (i := 1) rfl) rfl rfl rfl (Nat.le_of_ble_eq_true rfl) ((wdM cI cJ cZ qh (x1, B_h.2.1, B_h.2.2.1, B_h.2.2.2.1, B_h.2.2.2.2) P_h N_h L_h E_h V_h G_h D_h O_h Z_h R_h I_h)) rfl 23 rfl ?_
    refine k_aload_n C dX7_wall_23 1 rfl rfl 24 rfl ?_
    have hM := c_X7_clear (l := l) (D := D) (cI := cI) (cJ := cJ) (cZ := cZ) qh (x1, B_h.2.1, B_h.2.2.1, B_h.2.2.2.1, B_h.2.2.2.2) P_h N_h L_h E_h V_h G_h D_h O_h Z_h R_h I_h _ h
    refine k_callV C dX7_wall_24 hM gX7_wall_X7_clear rfl sg_X7_clear 7 rfl rfl rfl (Nat.le_of_ble_eq_true rfl) ⟨⟨rfl, rfl⟩, by decide, by decide⟩ ⟨Nat.le_refl 0, Nat.le_refl 0⟩ [0, 1, 2, 3, 4, 5, 6, 7, 8, 9, 10, 11, 12, 13, 14, 15, 16] [] rfl rfl rfl rfl (by decide) 0 0 ⟨rfl, rfl⟩ 27 rfl (fun v w1 hq24 => ?_)
    obtain ⟨B_h_24, P_h_24, G_h_24, rfl, rfl, h⟩ := hq24
    refine k_perm C [0, 1, 2, 3, 4, 5, 6, 7, 8, 9, 10, 11, 12, 13, 14, 15, 16] [] ((wdM cI cJ cZ qh B_h_24 P_h_24 N_h L_h E_h V_h G_h_24 D_h O_h Z_h R_h I_h)) rfl rfl rfl ?_
    refine k_iload_n C dX7_wall_27 0 rfl rfl 28 rfl ?_
    exact k_iret C dX7_wall_28 ⟨B_h.1, B_h_24, P_h_24, G_h_24, rfl, rfl, h⟩
  · have h := hf hc7; clear ht hf
    refine k_bipush C dX7_wall_10 (by decide) 12 rfl ?_
    exact k_iret C dX7_wall_12 ⟨(-2), B_h, P_h, G_h, rfl, rfl, h⟩

/-! X7_guest -/
abbrev rm_X7_guest : Room := { frames := 1, cells := 0, slots := 0, locals := 22 }
theorem sg_X7_guest : yX7_guest.cls ≠ "java/lang/invoke/MethodHandle" ∧ yX7_guest.cls ≠ "java/lang/invoke/VarHandle" ∧ (parseMethodDescriptor yX7_guest.desc).map (fun d => d.parameters.length) = some 4 := by decide +kernel
theorem hin_X7_guest_7 : ∀ w ∈ wsX70, w ∈ wsX7_guest := fun _ h => List.mem_cons_of_mem _ (List.mem_append_right _ h)
def rp_X7_guest (cI cJ cZ : ClassId) (qh : Nat → Nat) (P_h : gMP) (N_h : gMN) (L_h : gML) (E_h : gME) (V_h : gMV) (G_h : gMG) (D_h : gMD) (O_h : gMO) (Z_h : gMZ) (R_h : gMR) (I_h : gMI) (Q : Int → gMB → Prop) : Option Value → va_W → Prop := fun v w1 => ∃ (r : Int) (B_h : gMB), v = some (.int (iI r)) ∧ w1 = (wdM cI cJ cZ qh B_h P_h N_h L_h E_h V_h G_h D_h O_h Z_h R_h I_h) ∧ Q r B_h
def wp_X7_guest (B_h : gMB) (P_h : gMP) (x1 : Int) (x2 : Int) (x3 : Int) (x4 : Int) (Q : Int → gMB → Prop) : Prop :=
    wp_X7_in x1 0 9 (fun (r4 : Int) => ((¬ r4 = 0 → wp_X7_in x2 1 3 (fun (r15 : Int) => ((r15 = 0 → Q (-2) B_h) ∧ (¬ (r15 = 0) → wp_X7_in x3 1 20 (fun (r25 : Int) => ((r25 = 0 → Q (-2) B_h) ∧ (¬ (r25 = 0) → wp_X7_in x4 0 200 (fun (r37 : Int) => ((¬ r37 = 0 → (0 ≤ x1 ∧ x1 < 10) ∧ rI (P_h.1 x1) ∧ (((P_h.1 x1) < 0 → wp_X7_bits (ior B_h.2.1 (ishl 1 x1)) (fun (r96 : Int) => Q r96 (B_h.1, ior B_h.2.1 (ishl 1 x1), aset B_h.2.2.1 x1 x2, aset B_h.2.2.2.1 x1 x3, aset B_h.2.2.2.2 x1 x4))) ∧ (¬ ((P_h.1 x1) < 0) → Q (-3) B_h))) ∧ (¬ (¬ r37 = 0) → Q (-2) B_h)))))))))) ∧ (¬ (¬ r4 = 0) → Q (-1) B_h)))

set_option maxHeartbeats 4000000 in
set_option maxRecDepth 20000 in
theorem c_X7_guest {l : Launch} {D : va_G} {cI cJ cZ : ClassId} (qh : Nat → Nat) (B_h : gMB) (P_h : gMP) (N_h : gMN) (L_h : gML) (E_h : gME) (V_h : gMV) (G_h : gMG) (D_h : gMD) (O_h : gMO) (Z_h : gMZ) (R_h : gMR) (I_h : gMI) (x1 : Int) (x2 : Int) (x3 : Int) (x4 : Int) (Q : Int → gMB → Prop) (h : wp_X7_guest B_h P_h x1 x2 x3 x4 Q) : KM l D (kT cI cJ cZ) 0 0 yX7_guest wsX7_guest rm_X7_guest [.ref (qh 0), .int (iI x1), .int (iI x2), .int (iI x3), .int (iI x4)] ((wdM cI cJ cZ qh B_h P_h N_h L_h E_h V_h G_h D_h O_h Z_h R_h I_h)) (rp_X7_guest cI cJ cZ qh P_h N_h L_h E_h V_h G_h D_h O_h Z_h R_h I_h Q) := by
  refine KM_intro (lv := [(0, .ref (qh 0)), (1, .int (iI x1)), (2, .int (iI x2)), (3, .int (iI x3)), (4, .int (iI x4))]) false rfl (by decide) (Nat.le_of_ble_eq_true rfl) rfl (fun h => absurd h (by decide)) (fun v ws hq => by obtain ⟨r, B_h, rfl, rfl, _⟩ := hq; exact Or.inr (Or.inl ⟨rfl, _, rfl⟩)) (fun A K C => ?_)
  refine k_iload_n C dX7_guest_0 1 rfl rfl 1 rfl ?_
  refine k_iconst C dX7_guest_1 2 rfl ?_
  refine k_bipush C dX7_guest_2 (by decide) 4 rfl ?_
  have hM := c_X7_in (l := l) (D := D) (cI := cI) (cJ := cJ) (cZ := cZ) x1 0 9 _ h
  refine k_callS C dX7_guest_4 hM gX7_guest_X7_in rfl sg_X7_in rfl (Nat.le_of_ble_eq_true rfl) ⟨⟨rfl, rfl⟩, by decide, by decide⟩ ⟨Nat.le_refl 0, Nat.le_refl 0⟩ [] [0, 1, 2, 3, 4, 5, 6, 7, 8, 9, 10, 11, 12, 13, 14, 15, 16] rfl rfl rfl rfl (by decide) 0 0 ⟨rfl, rfl⟩ 7 rfl (fun v w1 hq4 => ?_)
  obtain ⟨r4, rfl, rfl, hb4, h⟩ := hq4
  refine k_perm C [0, 1, 2, 3, 4, 5, 6, 7, 8, 9, 10, 11, 12, 13, 14, 15, 16] [.int (iI r4)] ((wdM cI cJ cZ qh B_h P_h N_h L_h E_h V_h G_h D_h O_h Z_h R_h I_h)) rfl rfl rfl ?_
  obtain ⟨ht, hf⟩ := h
  refine k_if_ne C dX7_guest_7 (by rcases hb4 with rfl | rfl <;> decide) 12 10 (by decide) rfl (fun hc7 => ?_) (fun hc7 => ?_)
  · have h := ht hc7; clear ht hf
    refine k_iload_n C dX7_guest_12 2 rfl rfl 13 rfl ?_
    refine k_iconst C dX7_guest_13 14 rfl ?_
    refine k_iconst C dX7_guest_14 15 rfl ?_
    have hM := c_X7_in (l := l) (D := D) (cI := cI) (cJ := cJ) (cZ := cZ) x2 1 3 _ h
    refine k_callS C dX7_guest_15 hM gX7_guest_X7_in rfl sg_X7_in rfl (Nat.le_of_ble_eq_true rfl) ⟨⟨rfl, rfl⟩, by decide, by decide⟩ ⟨Nat.le_refl 0, Nat.le_refl 0⟩ [] [0, 1, 2, 3, 4, 5, 6, 7, 8, 9, 10, 11, 12, 13, 14, 15, 16] rfl rfl rfl rfl (by decide) 0 0 ⟨rfl, rfl⟩ 18 rfl (fun v w1 hq15 => ?_)
    obtain ⟨r15, rfl, rfl, hb15, h⟩ := hq15
    refine k_perm C [0, 1, 2, 3, 4, 5, 6, 7, 8, 9, 10, 11, 12, 13, 14, 15, 16] [.int (iI r15)] ((wdM cI cJ cZ qh B_h P_h N_h L_h E_h V_h G_h D_h O_h Z_h R_h I_h)) rfl rfl rfl ?_
    obtain ⟨ht, hf⟩ := h
    refine k_if_eq C dX7_guest_18 (by rcases hb15 with rfl | rfl <;> decide) 43 21 (by decide) rfl (fun hc18 => ?_) (fun hc18 => ?_)
    · have h := ht hc18; clear ht hf
      refine k_bipush C dX7_guest_43 (by decide) 45 rfl ?_
      exact k_iret C dX7_guest_45 ⟨(-2), B_h, rfl, rfl, h⟩
    · have h := hf hc18; clear ht hf
      refine k_iload_n C dX7_guest_21 3 rfl rfl 22 rfl ?_
      refine k_iconst C dX7_guest_22 23 rfl ?_
      refine k_bipush C dX7_guest_23 (by decide) 25 rfl ?_
      have hM := c_X7_in (l := l) (D := D) (cI := cI) (cJ := cJ) (cZ := cZ) x3 1 20 _ h
      refine k_callS C dX7_guest_25 hM gX7_guest_X7_in rfl sg_X7_in rfl (Nat.le_of_ble_eq_true rfl) ⟨⟨rfl, rfl⟩, by decide, by decide⟩ ⟨Nat.le_refl 0, Nat.le_refl 0⟩ [] [0, 1, 2, 3, 4, 5, 6, 7, 8, 9, 10, 11, 12, 13, 14, 15, 16] rfl rfl rfl rfl (by decide) 0 0 ⟨rfl, rfl⟩ 28 rfl (fun v w1 hq25 => ?_)
      obtain ⟨r25, rfl, rfl, hb25, h⟩ := hq25
      refine k_perm C [0, 1, 2, 3, 4, 5, 6, 7, 8, 9, 10, 11, 12, 13, 14, 15, 16] [.int (iI r25)] ((wdM cI cJ cZ qh B_h P_h N_h L_h E_h V_h G_h D_h O_h Z_h R_h I_h)) rfl rfl rfl ?_
      obtain ⟨ht, hf⟩ := h
      refine k_if_eq C dX7_guest_28 (by rcases hb25 with rfl | rfl <;> decide) 43 31 (by decide) rfl (fun hc28 => ?_) (fun hc28 => ?_)
      · have h := ht hc28; clear ht hf
        refine k_bipush C dX7_guest_43 (by decide) 45 rfl ?_
        exact k_iret C dX7_guest_45 ⟨(-2), B_h, rfl, rfl, h⟩
      · have h := hf hc28; clear ht hf
        refine k_iload C dX7_guest_31 4 rfl 33 rfl ?_
        refine k_iconst C dX7_guest_33 34 rfl ?_
        refine k_sipush C dX7_guest_34 (by decide) 37 rfl ?_
        have hM := c_X7_in (l := l) (D := D) (cI := cI) (cJ := cJ) (cZ := cZ) x4 0 200 _ h
        refine k_callS C dX7_guest_37 hM gX7_guest_X7_in rfl sg_X7_in rfl (Nat.le_of_ble_eq_true rfl) ⟨⟨rfl, rfl⟩, by decide, by decide⟩ ⟨Nat.le_refl 0, Nat.le_refl 0⟩ [] [0, 1, 2, 3, 4, 5, 6, 7, 8, 9, 10, 11, 12, 13, 14, 15, 16] rfl rfl rfl rfl (by decide) 0 0 ⟨rfl, rfl⟩ 40 rfl (fun v w1 hq37 => ?_)
        obtain ⟨r37, rfl, rfl, hb37, h⟩ := hq37
        refine k_perm C [0, 1, 2, 3, 4, 5, 6, 7, 8, 9, 10, 11, 12, 13, 14, 15, 16] [.int (iI r37)] ((wdM cI cJ cZ qh B_h P_h N_h L_h E_h V_h G_h D_h O_h Z_h R_h I_h)) rfl rfl rfl ?_
        obtain ⟨ht, hf⟩ := h
        refine k_if_ne C dX7_guest_40 (by rcases hb37 with rfl | rfl <;> decide) 46 43 (by decide) rfl (fun hc40 => ?_) (fun hc40 => ?_)
        · have h := ht hc40; clear ht hf
          refine k_aload_n C dX7_guest_46 0 rfl rfl 47 rfl ?_
          refine k_get C dX7_guest_47 0 rfl (ci := 7) rfl hin_X7_guest_7 5 (by decide) (List.mem_of_getElem? (i := 1) rfl) rfl 50 rfl ?_
          refine k_iload_n C dX7_guest_50 1 rfl rfl 51 rfl ?_
          obtain ⟨hi51, h⟩ := h
          refine k_iaload C dX7_guest_51 4 0 rfl rfl (by decide) hi51 52 rfl ?_
          obtain ⟨hr52a, h⟩ := h
          obtain ⟨ht, hf⟩ := h
          refine k_if_lt C dX7_guest_52 hr52a 58 55 (by decide) rfl (fun hc52 => ?_) (fun hc52 => ?_)
          · have h := ht hc52; clear ht hf
            refine k_aload_n C dX7_guest_58 0 rfl rfl 59 rfl ?_
            refine k_dup C dX7_guest_59 rfl 60 rfl ?_
            refine k_get C dX7_guest_60 0 rfl (ci := 7) rfl hin_X7_guest_7 1 (by decide) (List.mem_of_getElem? (i := 2) rfl) rfl 63 rfl ?_
            refine k_iconst C dX7_guest_63 64 rfl ?_
            refine k_iload_n C dX7_guest_64 1 rfl rfl 65 rfl ?_
            refine k_ishl C dX7_guest_65 66 rfl ?_
            refine k_ior C dX7_guest_66 67 rfl ?_
            refine k_put C dX7_guest_67 0 rfl (ci := 7) rfl hin_X7_guest_7 tyX7_ok nmX7 1 (by decide) (List.mem_of_getElem? (i := 2) rfl) rfl rfl rfl (Nat.le_of_ble_eq_true rfl) ((wdM cI cJ cZ qh (B_h.1, ior B_h.2.1 (ishl 1 x1), B_h.2.2.1, B_h.2.2.2.1, B_h.2.2.2.2) P_h N_h L_h E_h V_h G_h D_h O_h Z_h R_h I_h)) rfl 70 rfl ?_
            refine k_aload_n C dX7_guest_70 0 rfl rfl 71 rfl ?_
            refine k_get C dX7_guest_71 0 rfl (ci := 7) rfl hin_X7_guest_7 2 (by decide) (List.mem_of_getElem? (i := 3) rfl) rfl 74 rfl ?_
            refine k_iload_n C dX7_guest_74 1 rfl rfl 75 rfl ?_
            refine k_iload_n C dX7_guest_75 2 rfl rfl 76 rfl ?_
            refine k_iastore C dX7_guest_76 1 0 rfl rfl (by decide) hi51 ((wdM cI cJ cZ qh (B_h.1, ior B_h.2.1 (ishl 1 x1), aset B_h.2.2.1 x1 x2, B_h.2.2.2.1, B_h.2.2.2.2) P_h N_h L_h E_h V_h G_h D_h O_h Z_h R_h I_h)) rfl 77 rfl ?_
            refine k_aload_n C dX7_guest_77 0 rfl rfl 78 rfl ?_
            refine k_get C dX7_guest_78 0 rfl (ci := 7) rfl hin_X7_guest_7 3 (by decide) (List.mem_of_getElem? (i := 4) rfl) rfl 81 rfl ?_
            refine k_iload_n C dX7_guest_81 1 rfl rfl 82 rfl ?_
            refine k_iload_n C dX7_guest_82 3 rfl rfl 83 rfl ?_
            refine k_iastore C dX7_guest_83 2 0 rfl rfl (by decide) hi51 ((wdM cI cJ cZ qh (B_h.1, ior B_h.2.1 (ishl 1 x1), aset B_h.2.2.1 x1 x2, aset B_h.2.2.2.1 x1 x3, B_h.2.2.2.2) P_h N_h L_h E_h V_h G_h D_h O_h Z_h R_h I_h)) rfl 84 rfl ?_
            refine k_aload_n C dX7_guest_84 0 rfl rfl 85 rfl ?_
            refine k_get C dX7_guest_85 0 rfl (ci := 7) rfl hin_X7_guest_7 4 (by decide) (List.mem_of_getElem? (i := 5) rfl) rfl 88 rfl ?_
            refine k_iload_n C dX7_guest_88 1 rfl rfl 89 rfl ?_
            refine k_iload C dX7_guest_89 4 rfl 91 rfl ?_
            refine k_iastore C dX7_guest_91 3 0 rfl rfl (by decide) hi51 ((wdM cI cJ cZ qh (B_h.1, ior B_h.2.1 (ishl 1 x1), aset B_h.2.2.1 x1 x2, aset B_h.2.2.2.1 x1 x3, aset B_h.2.2.2.2 x1 x4) P_h N_h L_h E_h V_h G_h D_h O_h Z_h R_h I_h)) rfl 92 rfl ?_
            refine k_aload_n C dX7_guest_92 0 rfl rfl 93 rfl ?_
            refine k_get C dX7_guest_93 0 rfl (ci := 7) rfl hin_X7_guest_7 1 (by decide) (List.mem_of_getElem? (i := 2) rfl) rfl 96 rfl ?_
            have hM := c_X7_bits (l := l) (D := D) (cI := cI) (cJ := cJ) (cZ := cZ) (ior B_h.2.1 (ishl 1 x1)) _ h
            refine k_callS C dX7_guest_96 hM gX7_guest_X7_bits rfl sg_X7_bits rfl (Nat.le_of_ble_eq_true rfl) ⟨⟨rfl, rfl⟩, by decide, by decide⟩ ⟨Nat.le_refl 0, Nat.le_refl 0⟩ [] [0, 1, 2, 3, 4, 5, 6, 7, 8, 9, 10, 11, 12, 13, 14, 15, 16] rfl rfl rfl rfl (by decide) 0 0 ⟨rfl, rfl⟩ 99 rfl (fun v w1 hq96 => ?_)
            obtain ⟨r96, rfl, rfl, h⟩ := hq96
            refine k_perm C [0, 1, 2, 3, 4, 5, 6, 7, 8, 9, 10, 11, 12, 13, 14, 15, 16] [.int (iI r96)] ((wdM cI cJ cZ qh (B_h.1, ior B_h.2.1 (ishl 1 x1), aset B_h.2.2.1 x1 x2, aset B_h.2.2.2.1 x1 x3, aset B_h.2.2.2.2 x1 x4) P_h N_h L_h E_h V_h G_h D_h O_h Z_h R_h I_h)) rfl rfl rfl ?_
            exact k_iret C dX7_guest_99 ⟨r96, (B_h.1, ior B_h.2.1 (ishl 1 x1), aset B_h.2.2.1 x1 x2, aset B_h.2.2.2.1 x1 x3, aset B_h.2.2.2.2 x1 x4), rfl, rfl, h⟩
          · have h := hf hc52; clear ht hf
            refine k_bipush C dX7_guest_55 (by decide) 57 rfl ?_
            exact k_iret C dX7_guest_57 ⟨(-3), B_h, rfl, rfl, h⟩
        · have h := hf hc40; clear ht hf
          refine k_bipush C dX7_guest_43 (by decide) 45 rfl ?_
          exact k_iret C dX7_guest_45 ⟨(-2), B_h, rfl, rfl, h⟩
  · have h := hf hc7; clear ht hf
    refine k_iconst C dX7_guest_10 11 rfl ?_
    exact k_iret C dX7_guest_11 ⟨(-1), B_h, rfl, rfl, h⟩

/-! X7_say -/
abbrev rm_X7_say : Room := { frames := 1, cells := 0, slots := 0, locals := 22 }
theorem sg_X7_say : yX7_say.cls ≠ "java/lang/invoke/MethodHandle" ∧ yX7_say.cls ≠ "java/lang/invoke/VarHandle" ∧ (parseMethodDescriptor yX7_say.desc).map (fun d => d.parameters.length) = some 1 := by decide +kernel
theorem hin_X7_say_7 : ∀ w ∈ wsX70, w ∈ wsX7_say := fun _ h => List.mem_cons_of_mem _ (List.mem_append_right _ h)
def rp_X7_say (cI cJ cZ : ClassId) (qh : Nat → Nat) (B_h : gMB) (P_h : gMP) (N_h : gMN) (L_h : gML) (E_h : gME) (V_h : gMV) (G_h : gMG) (O_h : gMO) (Z_h : gMZ) (R_h : gMR) (I_h : gMI) (Q : Int → gMD → Prop) : Option Value → va_W → Prop := fun v w1 => ∃ (r : Int) (D_h : gMD), v = some (.int (iI r)) ∧ w1 = (wdM cI cJ cZ qh B_h P_h N_h L_h E_h V_h G_h D_h O_h Z_h R_h I_h) ∧ Q r D_h
def wp_X7_say (D_h : gMD) (x1 : Int) (Q : Int → gMD → Prop) : Prop :=
    wp_X7_in x1 33 126 (fun (r5 : Int) => ((¬ r5 = 0 → rI D_h.1 ∧ ((¬ D_h.1 = 60 → (0 ≤ D_h.1 ∧ D_h.1 < 60) ∧ Q (D_h.1 + 1) (D_h.1 + 1, aset D_h.2 D_h.1 x1)) ∧ (¬ (¬ D_h.1 = 60) → Q (-4) D_h))) ∧ (¬ (¬ r5 = 0) → Q (-2) D_h)))

set_option maxHeartbeats 4000000 in
set_option maxRecDepth 20000 in
theorem c_X7_say {l : Launch} {D : va_G} {cI cJ cZ : ClassId} (qh : Nat → Nat) (B_h : gMB) (P_h : gMP) (N_h : gMN) (L_h : gML) (E_h : gME) (V_h : gMV) (G_h : gMG) (D_h : gMD) (O_h : gMO) (Z_h : gMZ) (R_h : gMR) (I_h : gMI) (x1 : Int) (Q : Int → gMD → Prop) (h : wp_X7_say D_h x1 Q) : KM l D (kT cI cJ cZ) 0 0 yX7_say wsX7_say rm_X7_say [.ref (qh 0), .int (iI x1)] ((wdM cI cJ cZ qh B_h P_h N_h L_h E_h V_h G_h D_h O_h Z_h R_h I_h)) (rp_X7_say cI cJ cZ qh B_h P_h N_h L_h E_h V_h G_h O_h Z_h R_h I_h Q) := by
  refine KM_intro (lv := [(0, .ref (qh 0)), (1, .int (iI x1))]) false rfl (by decide) (Nat.le_of_ble_eq_true rfl) rfl (fun h => absurd h (by decide)) (fun v ws hq => by obtain ⟨r, D_h, rfl, rfl, _⟩ := hq; exact Or.inr (Or.inl ⟨rfl, _, rfl⟩)) (fun A K C => ?_)
  refine k_iload_n C dX7_say_0 1 rfl rfl 1 rfl ?_
  refine k_bipush C dX7_say_1 (by decide) 3 rfl ?_
  refine k_bipush C dX7_say_3 (by decide) 5 rfl ?_
  have hM := c_X7_in (l := l) (D := D) (cI := cI) (cJ := cJ) (cZ := cZ) x1 33 126 _ h
  refine k_callS C dX7_say_5 hM gX7_say_X7_in rfl sg_X7_in rfl (Nat.le_of_ble_eq_true rfl) ⟨⟨rfl, rfl⟩, by decide, by decide⟩ ⟨Nat.le_refl 0, Nat.le_refl 0⟩ [] [0, 1, 2, 3, 4, 5, 6, 7, 8, 9, 10, 11, 12, 13, 14, 15, 16] rfl rfl rfl rfl (by decide) 0 0 ⟨rfl, rfl⟩ 8 rfl (fun v w1 hq5 => ?_)
  obtain ⟨r5, rfl, rfl, hb5, h⟩ := hq5
  refine k_perm C [0, 1, 2, 3, 4, 5, 6, 7, 8, 9, 10, 11, 12, 13, 14, 15, 16] [.int (iI r5)] ((wdM cI cJ cZ qh B_h P_h N_h L_h E_h V_h G_h D_h O_h Z_h R_h I_h)) rfl rfl rfl ?_
  obtain ⟨ht, hf⟩ := h
  refine k_if_ne C dX7_say_8 (by rcases hb5 with rfl | rfl <;> decide) 14 11 (by decide) rfl (fun hc8 => ?_) (fun hc8 => ?_)
  · have h := ht hc8; clear ht hf
    refine k_aload_n C dX7_say_14 0 rfl rfl 15 rfl ?_
    refine k_get C dX7_say_15 0 rfl (ci := 7) rfl hin_X7_say_7 9 (by decide) (List.mem_of_getElem? (i := 1) rfl) rfl 18 rfl ?_
    refine k_bipush C dX7_say_18 (by decide) 20 rfl ?_
    obtain ⟨hr20a, h⟩ := h
    obtain ⟨ht, hf⟩ := h
    refine k_icmp_ne C dX7_say_20 ⟨hr20a, (by decide)⟩ 26 23 (by decide) rfl (fun hc20 => ?_) (fun hc20 => ?_)
    · have h := ht hc20; clear ht hf
      refine k_aload_n C dX7_say_26 0 rfl rfl 27 rfl ?_
      refine k_get C dX7_say_27 0 rfl (ci := 7) rfl hin_X7_say_7 10 (by decide) (List.mem_of_getElem? (i := 2) rfl) rfl 30 rfl ?_
      refine k_aload_n C dX7_say_30 0 rfl rfl 31 rfl ?_
      refine k_get C dX7_say_31 0 rfl (ci := 7) rfl hin_X7_say_7 9 (by decide) (List.mem_of_getElem? (i := 1) rfl) rfl 34 rfl ?_
      refine k_iload_n C dX7_say_34 1 rfl rfl 35 rfl ?_
      obtain ⟨hi35, h⟩ := h
      refine k_iastore C dX7_say_35 7 0 rfl rfl (by decide) hi35 ((wdM cI cJ cZ qh B_h P_h N_h L_h E_h V_h G_h (D_h.1, aset D_h.2 D_h.1 x1) O_h Z_h R_h I_h)) rfl 36 rfl ?_
      refine k_aload_n C dX7_say_36 0 rfl rfl 37 rfl ?_
      refine k_dup C dX7_say_37 rfl 38 rfl ?_
      refine k_get C dX7_say_38 0 rfl (ci := 7) rfl hin_X7_say_7 9 (by decide) (List.mem_of_getElem? (i := 1) rfl) rfl 41 rfl ?_
      refine k_iconst C dX7_say_41 42 rfl ?_
      refine k_iadd C dX7_say_42 43 rfl ?_
      refine k_put C dX7_say_43 0 rfl (ci := 7) rfl hin_X7_say_7 tyX7_ok nmX7 9 (by decide) (List.mem_of_getElem? (i := 1) rfl) rfl rfl rfl (Nat.le_of_ble_eq_true rfl) ((wdM cI cJ cZ qh B_h P_h N_h L_h E_h V_h G_h (D_h.1 + 1, aset D_h.2 D_h.1 x1) O_h Z_h R_h I_h)) rfl 46 rfl ?_
      refine k_aload_n C dX7_say_46 0 rfl rfl 47 rfl ?_
      refine k_get C dX7_say_47 0 rfl (ci := 7) rfl hin_X7_say_7 9 (by decide) (List.mem_of_getElem? (i := 1) rfl) rfl 50 rfl ?_
      exact k_iret C dX7_say_50 ⟨D_h.1 + 1, (D_h.1 + 1, aset D_h.2 D_h.1 x1), rfl, rfl, h⟩
    · have h := hf hc20; clear ht hf
      refine k_bipush C dX7_say_23 (by decide) 25 rfl ?_
      exact k_iret C dX7_say_25 ⟨(-4), D_h, rfl, rfl, h⟩
  · have h := hf hc8; clear ht hf
    refine k_bipush C dX7_say_11 (by decide) 13 rfl ?_
    exact k_iret C dX7_say_13 ⟨(-2), D_h, rfl, rfl, h⟩

/-! X7_wipe -/
abbrev rm_X7_wipe : Room := { frames := 0, cells := 0, slots := 0, locals := 0 }
theorem sg_X7_wipe : yX7_wipe.cls ≠ "java/lang/invoke/MethodHandle" ∧ yX7_wipe.cls ≠ "java/lang/invoke/VarHandle" ∧ (parseMethodDescriptor yX7_wipe.desc).map (fun d => d.parameters.length) = some 0 := by decide +kernel
theorem hin_X7_wipe_7 : ∀ w ∈ wsX70, w ∈ wsX7_wipe := fun _ h => List.mem_cons_of_mem _ (List.mem_append_right _ h)
def rp_X7_wipe (cI cJ cZ : ClassId) (qh : Nat → Nat) (B_h : gMB) (P_h : gMP) (N_h : gMN) (L_h : gML) (E_h : gME) (V_h : gMV) (G_h : gMG) (O_h : gMO) (Z_h : gMZ) (R_h : gMR) (I_h : gMI) (Q : Int → gMD → Prop) : Option Value → va_W → Prop := fun v w1 => ∃ (r : Int) (D_h : gMD), v = some (.int (iI r)) ∧ w1 = (wdM cI cJ cZ qh B_h P_h N_h L_h E_h V_h G_h D_h O_h Z_h R_h I_h) ∧ Q r D_h
def wp_X7_wipe (D_h : gMD) (Q : Int → gMD → Prop) : Prop :=
    Q D_h.1 (0, D_h.2)

set_option maxHeartbeats 4000000 in
set_option maxRecDepth 20000 in
theorem c_X7_wipe {l : Launch} {D : va_G} {cI cJ cZ : ClassId} (qh : Nat → Nat) (B_h : gMB) (P_h : gMP) (N_h : gMN) (L_h : gML) (E_h : gME) (V_h : gMV) (G_h : gMG) (D_h : gMD) (O_h : gMO) (Z_h : gMZ) (R_h : gMR) (I_h : gMI) (Q : Int → gMD → Prop) (h : wp_X7_wipe D_h Q) : KM l D (kT cI cJ cZ) 0 0 yX7_wipe wsX7_wipe rm_X7_wipe [.ref (qh 0)] ((wdM cI cJ cZ qh B_h P_h N_h L_h E_h V_h G_h D_h O_h Z_h R_h I_h)) (rp_X7_wipe cI cJ cZ qh B_h P_h N_h L_h E_h V_h G_h O_h Z_h R_h I_h Q) := by
  refine KM_intro (lv := [(0, .ref (qh 0))]) false rfl (by decide) (Nat.le_of_ble_eq_true rfl) rfl (fun h => absurd h (by decide)) (fun v ws hq => by obtain ⟨r, D_h, rfl, rfl, _⟩ := hq; exact Or.inr (Or.inl ⟨rfl, _, rfl⟩)) (fun A K C => ?_)
  refine k_aload_n C dX7_wipe_0 0 rfl rfl 1 rfl ?_
  refine k_get C dX7_wipe_1 0 rfl (ci := 7) rfl hin_X7_wipe_7 9 (by decide) (List.mem_of_getElem? (i := 1) rfl) rfl 4 rfl ?_
  refine k_istore_n C dX7_wipe_4 rfl (by decide) [(1, .int (iI D_h.1)), (0, .ref (qh 0))] rfl 5 rfl ?_
  refine k_aload_n C dX7_wipe_5 1 rfl rfl 6 rfl ?_
  refine k_iconst C dX7_wipe_6 7 rfl ?_
  refine k_put C dX7_wipe_7 0 rfl (ci := 7) rfl hin_X7_wipe_7 tyX7_ok nmX7 9 (by decide) (List.mem_of_getElem? (i := 1) rfl) rfl rfl rfl (Nat.le_of_ble_eq_true rfl) ((wdM cI cJ cZ qh B_h P_h N_h L_h E_h V_h G_h (0, D_h.2) O_h Z_h R_h I_h)) rfl 10 rfl ?_
  refine k_iload_n C dX7_wipe_10 0 rfl rfl 11 rfl ?_
  exact k_iret C dX7_wipe_11 ⟨D_h.1, (0, D_h.2), rfl, rfl, h⟩

/-! X7_faultOf -/
abbrev rm_X7_faultOf : Room := { frames := 1, cells := 0, slots := 0, locals := 22 }
theorem sg_X7_faultOf : yX7_faultOf.cls ≠ "java/lang/invoke/MethodHandle" ∧ yX7_faultOf.cls ≠ "java/lang/invoke/VarHandle" ∧ (parseMethodDescriptor yX7_faultOf.desc).map (fun d => d.parameters.length) = some 0 := by decide +kernel
theorem hin_X7_faultOf_7 : ∀ w ∈ wsX70, w ∈ wsX7_faultOf := fun _ h => List.mem_cons_of_mem _ (List.mem_append_right _ h)
def rp_X7_faultOf (cI cJ cZ : ClassId) (qh : Nat → Nat) (B_h : gMB) (P_h : gMP) (N_h : gMN) (L_h : gML) (E_h : gME) (V_h : gMV) (G_h : gMG) (D_h : gMD) (O_h : gMO) (Z_h : gMZ) (R_h : gMR) (I_h : gMI) (Q : Int → Prop) : Option Value → va_W → Prop := fun v w1 => ∃ (r : Int), v = some (.int (iI r)) ∧ w1 = (wdM cI cJ cZ qh B_h P_h N_h L_h E_h V_h G_h D_h O_h Z_h R_h I_h) ∧ Q r
def wp_X7_faultOf_70 (K_2 : Int → Prop) (K_75 : Int → Prop)  (Q : Int → Prop) (x1 : Int) (s0 : Int) : Prop :=
    rI s0 ∧ ((¬ s0 = 0 → K_2 (x1 + 1)) ∧ (¬ (¬ s0 = 0) → K_75 x1))
def wp_X7_faultOf_2 (B_h : gMB) (D_h : gMD) (K_75 : Int → Prop) (K_83 : Prop)  (Q : Int → Prop) : Nat → Int → Prop
  | 0, _ => False
  | n2 + 1, x1 =>
    rI x1 ∧ rI D_h.1 ∧ ((D_h.1 ≤ x1 → K_83 ) ∧ (¬ (D_h.1 ≤ x1) → rI (x1.tmod 2) ∧ ((¬ (x1.tmod 2) = 0 → (0 ≤ x1 ∧ x1 < 60) ∧ rI (D_h.2 x1) ∧ (((D_h.2 x1) = 45 → wp_X7_faultOf_70 (fun (x1 : Int) => wp_X7_faultOf_2 B_h D_h K_75 K_83 Q n2 x1) K_75 Q x1 1) ∧ (¬ ((D_h.2 x1) = 45) → wp_X7_in ((D_h.2 x1) - 48) 0 (B_h.1 - 1) (fun (r59 : Int) => ((r59 = 0 → wp_X7_faultOf_70 (fun (x1 : Int) => wp_X7_faultOf_2 B_h D_h K_75 K_83 Q n2 x1) K_75 Q x1 0) ∧ (¬ (r59 = 0) → wp_X7_faultOf_70 (fun (x1 : Int) => wp_X7_faultOf_2 B_h D_h K_75 K_83 Q n2 x1) K_75 Q x1 1)))))) ∧ (¬ (¬ (x1.tmod 2) = 0) → (0 ≤ x1 ∧ x1 < 60) ∧ wp_X7_in (D_h.2 x1) 65 74 (fun (r26 : Int) => wp_X7_faultOf_70 (fun (x1 : Int) => wp_X7_faultOf_2 B_h D_h K_75 K_83 Q n2 x1) K_75 Q x1 r26)))))
def wp_X7_faultOf (B_h : gMB) (D_h : gMD) (Q : Int → Prop) : Prop :=
    ∃ m2, wp_X7_faultOf_2 B_h D_h (fun (x1 : Int) => Q x1) (rI D_h.1 ∧ rI (D_h.1.tmod 2) ∧ ((¬ (D_h.1.tmod 2) = 1 → Q (-6)) ∧ (¬ (¬ (D_h.1.tmod 2) = 1) → Q D_h.1))) Q m2 0
set_option maxHeartbeats 4000000 in
set_option maxRecDepth 20000 in
theorem w_X7_faultOf_70 {l : Launch} {D : va_G} {cI cJ cZ : ClassId} {A : Nat → Prop} {K : KT} {qh : Nat → Nat} {B_h : gMB} {P_h : gMP} {N_h : gMN} {L_h : gML} {E_h : gME} {V_h : gMV} {G_h : gMG} {D_h : gMD} {O_h : gMO} {Z_h : gMZ} {R_h : gMR} {I_h : gMI} {Q : Int → Prop} {K_2 : Int → Prop} {K_75 : Int → Prop} (C : KC cX7_faultOf yX7_faultOf.cls wsX7_faultOf rm_X7_faultOf 3 D (kT cI cJ cZ) A l false (rp_X7_faultOf cI cJ cZ qh B_h P_h N_h L_h E_h V_h G_h D_h O_h Z_h R_h I_h Q) 0 0 K) : ∀ (x1 : Int) (s0 : Int), wp_X7_faultOf_70 K_2 K_75 Q x1 s0 → (∀ (x1 : Int), K_2 x1 → K 0 0 2 [(0, .ref (qh 0)), (1, .int (iI x1))] [] ((wdM cI cJ cZ qh B_h P_h N_h L_h E_h V_h G_h D_h O_h Z_h R_h I_h))) → (∀ (x1 : Int), K_75 x1 → K 0 0 75 [(1, .int (iI x1))] [] ((wdM cI cJ cZ qh B_h P_h N_h L_h E_h V_h G_h D_h O_h Z_h R_h I_h))) → K 0 0 70 [(0, .ref (qh 0)), (1, .int (iI x1))] [.int (iI s0)] ((wdM cI cJ cZ qh B_h P_h N_h L_h E_h V_h G_h D_h O_h Z_h R_h I_h)) := by
  intro x1 s0 h hK_2 hK_75
  refine k_istore_n C dX7_faultOf_70 rfl (by decide) [(2, .int (iI s0)), (0, .ref (qh 0)), (1, .int (iI x1))] rfl 71 rfl ?_
  refine k_iload_n C dX7_faultOf_71 0 rfl rfl 72 rfl ?_
  obtain ⟨hr72a, h⟩ := h
  obtain ⟨ht, hf⟩ := h
  refine k_if_ne C dX7_faultOf_72 hr72a 77 75 (by decide) rfl (fun hc72 => ?_) (fun hc72 => ?_)
  · have h := ht hc72; clear ht hf
    refine k_iinc (j := 2) C dX7_faultOf_77 rfl (by decide) [(1, .int (iI (x1 + 1))), (2, .int (iI s0)), (0, .ref (qh 0))] rfl 80 rfl ?_
    refine k_goto C dX7_faultOf_80 2 (by decide) ?_
    refine k_lv C [2, 0] [(0, .ref (qh 0)), (1, .int (iI (x1 + 1)))] rfl ?_
    exact hK_2 (x1 + 1) h
  · have h := hf hc72; clear ht hf
    refine k_lv C [2] [(1, .int (iI x1))] rfl ?_
    exact hK_75 x1 h
set_option maxHeartbeats 4000000 in
set_option maxRecDepth 20000 in
theorem w_X7_faultOf_2 {l : Launch} {D : va_G} {cI cJ cZ : ClassId} {A : Nat → Prop} {K : KT} {qh : Nat → Nat} {B_h : gMB} {P_h : gMP} {N_h : gMN} {L_h : gML} {E_h : gME} {V_h : gMV} {G_h : gMG} {D_h : gMD} {O_h : gMO} {Z_h : gMZ} {R_h : gMR} {I_h : gMI} {Q : Int → Prop} {K_75 : Int → Prop} {K_83 : Prop} (C : KC cX7_faultOf yX7_faultOf.cls wsX7_faultOf rm_X7_faultOf 3 D (kT cI cJ cZ) A l false (rp_X7_faultOf cI cJ cZ qh B_h P_h N_h L_h E_h V_h G_h D_h O_h Z_h R_h I_h Q) 0 0 K) : ∀ (n : Nat) (x1 : Int), wp_X7_faultOf_2 B_h D_h K_75 K_83 Q n x1 → (∀ (x1 : Int), K_75 x1 → K 0 0 75 [(1, .int (iI x1))] [] ((wdM cI cJ cZ qh B_h P_h N_h L_h E_h V_h G_h D_h O_h Z_h R_h I_h))) → (∀ (_ : Unit), K_83  → K 0 0 83 [(0, .ref (qh 0))] [] ((wdM cI cJ cZ qh B_h P_h N_h L_h E_h V_h G_h D_h O_h Z_h R_h I_h))) → K 0 0 2 [(0, .ref (qh 0)), (1, .int (iI x1))] [] ((wdM cI cJ cZ qh B_h P_h N_h L_h E_h V_h G_h D_h O_h Z_h R_h I_h)) := by
  intro n
  induction n with
  | zero => intro x1 h; exact h.elim
  | succ n ih =>
    intro x1 h hK_75 hK_83
    refine k_iload_n C dX7_faultOf_2 1 rfl rfl 3 rfl ?_
    refine k_aload_n C dX7_faultOf_3 0 rfl rfl 4 rfl ?_
    refine k_get C dX7_faultOf_4 0 rfl (ci := 7) rfl hin_X7_faultOf_7 9 (by decide) (List.mem_of_getElem? (i := 1) rfl) rfl 7 rfl ?_
    obtain ⟨hr7a, hr7b, h⟩ := h
    obtain ⟨ht, hf⟩ := h
    refine k_icmp_ge C dX7_faultOf_7 ⟨hr7a, hr7b⟩ 83 10 (by decide) rfl (fun hc7 => ?_) (fun hc7 => ?_)
    · have h := ht hc7; clear ht hf
      refine k_lv C [0] [(0, .ref (qh 0))] rfl ?_
      exact hK_83 () h
    · have h := hf hc7; clear ht hf
      refine k_iload_n C dX7_faultOf_10 1 rfl rfl 11 rfl ?_
      refine k_iconst C dX7_faultOf_11 12 rfl ?_
      refine k_irem C dX7_faultOf_12 ⟨hr7a, (by decide), (by decide)⟩ 13 rfl ?_
      obtain ⟨hr13a, h⟩ := h
      obtain ⟨ht, hf⟩ := h
      refine k_if_ne C dX7_faultOf_13 hr13a 32 16 (by decide) rfl (fun hc13 => ?_) (fun hc13 => ?_)
      · have h := ht hc13; clear ht hf
        refine k_aload_n C dX7_faultOf_32 0 rfl rfl 33 rfl ?_
        refine k_get C dX7_faultOf_33 0 rfl (ci := 7) rfl hin_X7_faultOf_7 10 (by decide) (List.mem_of_getElem? (i := 2) rfl) rfl 36 rfl ?_
        refine k_iload_n C dX7_faultOf_36 1 rfl rfl 37 rfl ?_
        obtain ⟨hi37, h⟩ := h
        refine k_iaload C dX7_faultOf_37 7 0 rfl rfl (by decide) hi37 38 rfl ?_
        refine k_bipush C dX7_faultOf_38 (by decide) 40 rfl ?_
        obtain ⟨hr40a, h⟩ := h
        obtain ⟨ht, hf⟩ := h
        refine k_icmp_eq C dX7_faultOf_40 ⟨hr40a, (by decide)⟩ 65 43 (by decide) rfl (fun hc40 => ?_) (fun hc40 => ?_)
        · have h := ht hc40; clear ht hf
          refine k_iconst C dX7_faultOf_65 66 rfl ?_
          refine k_goto C dX7_faultOf_66 70 (by decide) ?_
          refine w_X7_faultOf_70 C x1 1 h (fun x1 h => ?_) hK_75
          · exact ih x1 h hK_75 hK_83
        · have h := hf hc40; clear ht hf
          refine k_aload_n C dX7_faultOf_43 0 rfl rfl 44 rfl ?_
          refine k_get C dX7_faultOf_44 0 rfl (ci := 7) rfl hin_X7_faultOf_7 10 (by decide) (List.mem_of_getElem? (i := 2) rfl) rfl 47 rfl ?_
          refine k_iload_n C dX7_faultOf_47 1 rfl rfl 48 rfl ?_
          refine k_iaload C dX7_faultOf_48 7 0 rfl rfl (by decide) hi37 49 rfl ?_
          refine k_bipush C dX7_faultOf_49 (by decide) 51 rfl ?_
          refine k_isub C dX7_faultOf_51 52 rfl ?_
          refine k_iconst C dX7_faultOf_52 53 rfl ?_
          refine k_aload_n C dX7_faultOf_53 0 rfl rfl 54 rfl ?_
          refine k_get C dX7_faultOf_54 0 rfl (ci := 7) rfl hin_X7_faultOf_7 0 (by decide) (List.mem_of_getElem? (i := 3) rfl) rfl 57 rfl ?_
          refine k_iconst C dX7_faultOf_57 58 rfl ?_
          refine k_isub C dX7_faultOf_58 59 rfl ?_
          have hM := c_X7_in (l := l) (D := D) (cI := cI) (cJ := cJ) (cZ := cZ) ((D_h.2 x1) - 48) 0 (B_h.1 - 1) _ h
          refine k_callS C dX7_faultOf_59 hM gX7_faultOf_X7_in rfl sg_X7_in rfl (Nat.le_of_ble_eq_true rfl) ⟨⟨rfl, rfl⟩, by decide, by decide⟩ ⟨Nat.le_refl 0, Nat.le_refl 0⟩ [] [0, 1, 2, 3, 4, 5, 6, 7, 8, 9, 10, 11, 12, 13, 14, 15, 16] rfl rfl rfl rfl (by decide) 0 0 ⟨rfl, rfl⟩ 62 rfl (fun v w1 hq59 => ?_)
          obtain ⟨r59, rfl, rfl, hb59, h⟩ := hq59
          refine k_perm C [0, 1, 2, 3, 4, 5, 6, 7, 8, 9, 10, 11, 12, 13, 14, 15, 16] [.int (iI r59)] ((wdM cI cJ cZ qh B_h P_h N_h L_h E_h V_h G_h D_h O_h Z_h R_h I_h)) rfl rfl rfl ?_
          obtain ⟨ht, hf⟩ := h
          refine k_if_eq C dX7_faultOf_62 (by rcases hb59 with rfl | rfl <;> decide) 69 65 (by decide) rfl (fun hc62 => ?_) (fun hc62 => ?_)
          · have h := ht hc62; clear ht hf
            refine k_iconst C dX7_faultOf_69 70 rfl ?_
            refine w_X7_faultOf_70 C x1 0 h (fun x1 h => ?_) hK_75
            · exact ih x1 h hK_75 hK_83
          · have h := hf hc62; clear ht hf
            refine k_iconst C dX7_faultOf_65 66 rfl ?_
            refine k_goto C dX7_faultOf_66 70 (by decide) ?_
            refine w_X7_faultOf_70 C x1 1 h (fun x1 h => ?_) hK_75
            · exact ih x1 h hK_75 hK_83
      · have h := hf hc13; clear ht hf
        refine k_aload_n C dX7_faultOf_16 0 rfl rfl 17 rfl ?_
        refine k_get C dX7_faultOf_17 0 rfl (ci := 7) rfl hin_X7_faultOf_7 10 (by decide) (List.mem_of_getElem? (i := 2) rfl) rfl 20 rfl ?_
        refine k_iload_n C dX7_faultOf_20 1 rfl rfl 21 rfl ?_
        obtain ⟨hi21, h⟩ := h
        refine k_iaload C dX7_faultOf_21 7 0 rfl rfl (by decide) hi21 22 rfl ?_
        refine k_bipush C dX7_faultOf_22 (by decide) 24 rfl ?_
        refine k_bipush C dX7_faultOf_24 (by decide) 26 rfl ?_
        have hM := c_X7_in (l := l) (D := D) (cI := cI) (cJ := cJ) (cZ := cZ) (D_h.2 x1) 65 74 _ h
        refine k_callS C dX7_faultOf_26 hM gX7_faultOf_X7_in rfl sg_X7_in rfl (Nat.le_of_ble_eq_true rfl) ⟨⟨rfl, rfl⟩, by decide, by decide⟩ ⟨Nat.le_refl 0, Nat.le_refl 0⟩ [] [0, 1, 2, 3, 4, 5, 6, 7, 8, 9, 10, 11, 12, 13, 14, 15, 16] rfl rfl rfl rfl (by decide) 0 0 ⟨rfl, rfl⟩ 29 rfl (fun v w1 hq26 => ?_)
        obtain ⟨r26, rfl, rfl, hb26, h⟩ := hq26
        refine k_perm C [0, 1, 2, 3, 4, 5, 6, 7, 8, 9, 10, 11, 12, 13, 14, 15, 16] [.int (iI r26)] ((wdM cI cJ cZ qh B_h P_h N_h L_h E_h V_h G_h D_h O_h Z_h R_h I_h)) rfl rfl rfl ?_
        refine k_goto C dX7_faultOf_29 70 (by decide) ?_
        refine w_X7_faultOf_70 C x1 r26 h (fun x1 h => ?_) hK_75
        · exact ih x1 h hK_75 hK_83
set_option maxHeartbeats 4000000 in
set_option maxRecDepth 20000 in
theorem c_X7_faultOf {l : Launch} {D : va_G} {cI cJ cZ : ClassId} (qh : Nat → Nat) (B_h : gMB) (P_h : gMP) (N_h : gMN) (L_h : gML) (E_h : gME) (V_h : gMV) (G_h : gMG) (D_h : gMD) (O_h : gMO) (Z_h : gMZ) (R_h : gMR) (I_h : gMI) (Q : Int → Prop) (h : wp_X7_faultOf B_h D_h Q) : KM l D (kT cI cJ cZ) 0 0 yX7_faultOf wsX7_faultOf rm_X7_faultOf [.ref (qh 0)] ((wdM cI cJ cZ qh B_h P_h N_h L_h E_h V_h G_h D_h O_h Z_h R_h I_h)) (rp_X7_faultOf cI cJ cZ qh B_h P_h N_h L_h E_h V_h G_h D_h O_h Z_h R_h I_h Q) := by
  refine KM_intro (lv := [(0, .ref (qh 0))]) false rfl (by decide) (Nat.le_of_ble_eq_true rfl) rfl (fun h => absurd h (by decide)) (fun v ws hq => by obtain ⟨r, rfl, rfl, _⟩ := hq; exact Or.inr (Or.inl ⟨rfl, _, rfl⟩)) (fun A K C => ?_)
  refine k_iconst C dX7_faultOf_0 1 rfl ?_
  refine k_istore_n C dX7_faultOf_1 rfl (by decide) [(1, .int (iI 0)), (0, .ref (qh 0))] rfl 2 rfl ?_
  refine k_lv C [1, 0] [(0, .ref (qh 0)), (1, .int (iI 0))] rfl ?_
  obtain ⟨m2, h⟩ := h
  refine w_X7_faultOf_2 C m2 0 h (fun x1 h => ?_) (fun _ h => ?_)
  · refine k_iload_n C dX7_faultOf_75 0 rfl rfl 76 rfl ?_
    exact k_iret C dX7_faultOf_76 ⟨x1, rfl, rfl, h⟩
  · refine k_aload_n C dX7_faultOf_83 0 rfl rfl 84 rfl ?_
    refine k_get C dX7_faultOf_84 0 rfl (ci := 7) rfl hin_X7_faultOf_7 9 (by decide) (List.mem_of_getElem? (i := 1) rfl) rfl 87 rfl ?_
    refine k_iconst C dX7_faultOf_87 88 rfl ?_
    obtain ⟨hr88a, h⟩ := h
    refine k_irem C dX7_faultOf_88 ⟨hr88a, (by decide), (by decide)⟩ 89 rfl ?_
    refine k_iconst C dX7_faultOf_89 90 rfl ?_
    obtain ⟨hr90a, h⟩ := h
    obtain ⟨ht, hf⟩ := h
    refine k_icmp_ne C dX7_faultOf_90 ⟨hr90a, (by decide)⟩ 100 93 (by decide) rfl (fun hc90 => ?_) (fun hc90 => ?_)
    · have h := ht hc90; clear ht hf
      refine k_bipush C dX7_faultOf_100 (by decide) 102 rfl ?_
      exact k_iret C dX7_faultOf_102 ⟨(-6), rfl, rfl, h⟩
    · have h := hf hc90; clear ht hf
      refine k_aload_n C dX7_faultOf_93 0 rfl rfl 94 rfl ?_
      refine k_get C dX7_faultOf_94 0 rfl (ci := 7) rfl hin_X7_faultOf_7 9 (by decide) (List.mem_of_getElem? (i := 1) rfl) rfl 97 rfl ?_
      refine k_goto C dX7_faultOf_97 102 (by decide) ?_
      exact k_iret C dX7_faultOf_102 ⟨D_h.1, rfl, rfl, h⟩

/-! X7_fault -/
abbrev rm_X7_fault : Room := { frames := 2, cells := 0, slots := 0, locals := 44 }
theorem sg_X7_fault : yX7_fault.cls ≠ "java/lang/invoke/MethodHandle" ∧ yX7_fault.cls ≠ "java/lang/invoke/VarHandle" ∧ (parseMethodDescriptor yX7_fault.desc).map (fun d => d.parameters.length) = some 0 := by decide +kernel
def rp_X7_fault (cI cJ cZ : ClassId) (qh : Nat → Nat) (B_h : gMB) (P_h : gMP) (N_h : gMN) (L_h : gML) (E_h : gME) (V_h : gMV) (G_h : gMG) (D_h : gMD) (O_h : gMO) (Z_h : gMZ) (R_h : gMR) (I_h : gMI) (Q : Int → Prop) : Option Value → va_W → Prop := fun v w1 => ∃ (r : Int), v = some (.int (iI r)) ∧ w1 = (wdM cI cJ cZ qh B_h P_h N_h L_h E_h V_h G_h D_h O_h Z_h R_h I_h) ∧ Q r
def wp_X7_fault (B_h : gMB) (D_h : gMD) (Q : Int → Prop) : Prop :=
    wp_X7_faultOf B_h D_h (fun (r1 : Int) => Q r1)

set_option maxHeartbeats 4000000 in
set_option maxRecDepth 20000 in
theorem c_X7_fault {l : Launch} {D : va_G} {cI cJ cZ : ClassId} (qh : Nat → Nat) (B_h : gMB) (P_h : gMP) (N_h : gMN) (L_h : gML) (E_h : gME) (V_h : gMV) (G_h : gMG) (D_h : gMD) (O_h : gMO) (Z_h : gMZ) (R_h : gMR) (I_h : gMI) (Q : Int → Prop) (h : wp_X7_fault B_h D_h Q) : KM l D (kT cI cJ cZ) 0 0 yX7_fault wsX7_fault rm_X7_fault [.ref (qh 0)] ((wdM cI cJ cZ qh B_h P_h N_h L_h E_h V_h G_h D_h O_h Z_h R_h I_h)) (rp_X7_fault cI cJ cZ qh B_h P_h N_h L_h E_h V_h G_h D_h O_h Z_h R_h I_h Q) := by
  refine KM_intro (lv := [(0, .ref (qh 0))]) false rfl (by decide) (Nat.le_of_ble_eq_true rfl) rfl (fun h => absurd h (by decide)) (fun v ws hq => by obtain ⟨r, rfl, rfl, _⟩ := hq; exact Or.inr (Or.inl ⟨rfl, _, rfl⟩)) (fun A K C => ?_)
  refine k_aload_n C dX7_fault_0 0 rfl rfl 1 rfl ?_
  have hM := c_X7_faultOf (l := l) (D := D) (cI := cI) (cJ := cJ) (cZ := cZ) qh B_h P_h N_h L_h E_h V_h G_h D_h O_h Z_h R_h I_h _ h
  refine k_callV C dX7_fault_1 hM gX7_fault_X7_faultOf rfl sg_X7_faultOf 7 rfl rfl rfl (Nat.le_of_ble_eq_true rfl) ⟨⟨rfl, rfl⟩, by decide, by decide⟩ ⟨Nat.le_refl 0, Nat.le_refl 0⟩ [0, 1, 2, 3, 4, 5, 6, 7, 8, 9, 10, 11, 12, 13, 14, 15, 16] [] rfl rfl rfl rfl (by decide) 0 0 ⟨rfl, rfl⟩ 4 rfl (fun v w1 hq1 => ?_)
  obtain ⟨r1, rfl, rfl, h⟩ := hq1
  refine k_perm C [0, 1, 2, 3, 4, 5, 6, 7, 8, 9, 10, 11, 12, 13, 14, 15, 16] [.int (iI r1)] ((wdM cI cJ cZ qh B_h P_h N_h L_h E_h V_h G_h D_h O_h Z_h R_h I_h)) rfl rfl rfl ?_
  exact k_iret C dX7_fault_4 ⟨r1, rfl, rfl, h⟩

/-! X7_asNow -/
abbrev rm_X7_asNow : Room := { frames := 0, cells := 0, slots := 0, locals := 0 }
theorem sg_X7_asNow : yX7_asNow.cls ≠ "java/lang/invoke/MethodHandle" ∧ yX7_asNow.cls ≠ "java/lang/invoke/VarHandle" ∧ (parseMethodDescriptor yX7_asNow.desc).map (fun d => d.parameters.length) = some 0 := by decide +kernel
theorem hin_X7_asNow_7 : ∀ w ∈ wsX70, w ∈ wsX7_asNow := fun _ h => List.mem_cons_of_mem _ (List.mem_append_right _ h)
def rp_X7_asNow (cI cJ cZ : ClassId) (qh : Nat → Nat) (B_h : gMB) (P_h : gMP) (L_h : gML) (E_h : gME) (V_h : gMV) (G_h : gMG) (D_h : gMD) (O_h : gMO) (Z_h : gMZ) (R_h : gMR) (I_h : gMI) (Q : gMN → Prop) : Option Value → va_W → Prop := fun v w1 => ∃ (N_h : gMN), v = none ∧ w1 = (wdM cI cJ cZ qh B_h P_h N_h L_h E_h V_h G_h D_h O_h Z_h R_h I_h) ∧ Q N_h
def wp_X7_asNow_2 (P_h : gMP) (K_38 : gMN → Prop)  (Q : gMN → Prop) : Nat → Int → gMN → Prop
  | 0, _, _ => False
  | n2 + 1, x1, N_h =>
    rI x1 ∧ ((10 ≤ x1 → K_38 N_h) ∧ (¬ (10 ≤ x1) → (0 ≤ x1 ∧ x1 < 10) ∧ wp_X7_asNow_2 P_h K_38 Q n2 (x1 + 1) (aset N_h.1 x1 (P_h.1 x1), aset N_h.2 x1 (P_h.2 x1))))
def wp_X7_asNow (P_h : gMP) (N_h : gMN) (Q : gMN → Prop) : Prop :=
    ∃ m2, wp_X7_asNow_2 P_h (fun (N_h : gMN) => Q N_h) Q m2 0 N_h
set_option maxHeartbeats 4000000 in
set_option maxRecDepth 20000 in
theorem w_X7_asNow_2 {l : Launch} {D : va_G} {cI cJ cZ : ClassId} {A : Nat → Prop} {K : KT} {qh : Nat → Nat} {B_h : gMB} {P_h : gMP} {L_h : gML} {E_h : gME} {V_h : gMV} {G_h : gMG} {D_h : gMD} {O_h : gMO} {Z_h : gMZ} {R_h : gMR} {I_h : gMI} {Q : gMN → Prop} {K_38 : gMN → Prop} (C : KC cX7_asNow yX7_asNow.cls wsX7_asNow rm_X7_asNow 2 D (kT cI cJ cZ) A l false (rp_X7_asNow cI cJ cZ qh B_h P_h L_h E_h V_h G_h D_h O_h Z_h R_h I_h Q) 0 0 K) : ∀ (n : Nat) (x1 : Int) (N_h : gMN), wp_X7_asNow_2 P_h K_38 Q n x1 N_h → (∀ (N_h : gMN), K_38 N_h → K 0 0 38 [] [] ((wdM cI cJ cZ qh B_h P_h N_h L_h E_h V_h G_h D_h O_h Z_h R_h I_h))) → K 0 0 2 [(0, .ref (qh 0)), (1, .int (iI x1))] [] ((wdM cI cJ cZ qh B_h P_h N_h L_h E_h V_h G_h D_h O_h Z_h R_h I_h)) := by
  intro n
  induction n with
  | zero => intro x1 N_h h; exact h.elim
  | succ n ih =>
    intro x1 N_h h hK_38
    refine k_iload_n C dX7_asNow_2 1 rfl rfl 3 rfl ?_
    refine k_bipush C dX7_asNow_3 (by decide) 5 rfl ?_
    obtain ⟨hr5a, h⟩ := h
    obtain ⟨ht, hf⟩ := h
    refine k_icmp_ge C dX7_asNow_5 ⟨hr5a, (by decide)⟩ 38 8 (by decide) rfl (fun hc5 => ?_) (fun hc5 => ?_)
    · have h := ht hc5; clear ht hf
      refine k_lv C [] [] rfl ?_
      exact hK_38 N_h h
    · have h := hf hc5; clear ht hf
      refine k_aload_n C dX7_asNow_8 0 rfl rfl 9 rfl ?_
      refine k_get C dX7_asNow_9 0 rfl (ci := 7) rfl hin_X7_asNow_7 11 (by decide) (List.mem_of_getElem? (i := 1) rfl) rfl 12 rfl ?_
      refine k_iload_n C dX7_asNow_12 1 rfl rfl 13 rfl ?_
      refine k_aload_n C dX7_asNow_13 0 rfl rfl 14 rfl ?_
      refine k_get C dX7_asNow_14 0 rfl (ci := 7) rfl hin_X7_asNow_7 5 (by decide) (List.mem_of_getElem? (i := 2) rfl) rfl 17 rfl ?_
      refine k_iload_n C dX7_asNow_17 1 rfl rfl 18 rfl ?_
      obtain ⟨hi18, h⟩ := h
      refine k_iaload C dX7_asNow_18 4 0 rfl rfl (by decide) hi18 19 rfl ?_
      refine k_iastore C dX7_asNow_19 8 0 rfl rfl (by decide) hi18 ((wdM cI cJ cZ qh B_h P_h (aset N_h.1 x1 (P_h.1 x1), N_h.2) L_h E_h V_h G_h D_h O_h Z_h R_h I_h)) rfl 20 rfl ?_
      refine k_aload_n C dX7_asNow_20 0 rfl rfl 21 rfl ?_
      refine k_get C dX7_asNow_21 0 rfl (ci := 7) rfl hin_X7_asNow_7 12 (by decide) (List.mem_of_getElem? (i := 3) rfl) rfl 24 rfl ?_
      refine k_iload_n C dX7_asNow_24 1 rfl rfl 25 rfl ?_
      refine k_aload_n C dX7_asNow_25 0 rfl rfl 26 rfl ?_
      refine k_get C dX7_asNow_26 0 rfl (ci := 7) rfl hin_X7_asNow_7 6 (by decide) (List.mem_of_getElem? (i := 4) rfl) rfl 29 rfl ?_
      refine k_iload_n C dX7_asNow_29 1 rfl rfl 30 rfl ?_
      refine k_iaload C dX7_asNow_30 5 0 rfl rfl (by decide) hi18 31 rfl ?_
      refine k_iastore C dX7_asNow_31 9 0 rfl rfl (by decide) hi18 ((wdM cI cJ cZ qh B_h P_h (aset N_h.1 x1 (P_h.1 x1), aset N_h.2 x1 (P_h.2 x1)) L_h E_h V_h G_h D_h O_h Z_h R_h I_h)) rfl 32 rfl ?_
      refine k_iinc (j := 1) C dX7_asNow_32 rfl (by decide) [(1, .int (iI (x1 + 1))), (0, .ref (qh 0))] rfl 35 rfl ?_
      refine k_goto C dX7_asNow_35 2 (by decide) ?_
      refine k_lv C [1, 0] [(0, .ref (qh 0)), (1, .int (iI (x1 + 1)))] rfl ?_
      exact ih (x1 + 1) (aset N_h.1 x1 (P_h.1 x1), aset N_h.2 x1 (P_h.2 x1)) h hK_38
set_option maxHeartbeats 4000000 in
set_option maxRecDepth 20000 in
theorem c_X7_asNow {l : Launch} {D : va_G} {cI cJ cZ : ClassId} (qh : Nat → Nat) (B_h : gMB) (P_h : gMP) (N_h : gMN) (L_h : gML) (E_h : gME) (V_h : gMV) (G_h : gMG) (D_h : gMD) (O_h : gMO) (Z_h : gMZ) (R_h : gMR) (I_h : gMI) (Q : gMN → Prop) (h : wp_X7_asNow P_h N_h Q) : KM l D (kT cI cJ cZ) 0 0 yX7_asNow wsX7_asNow rm_X7_asNow [.ref (qh 0)] ((wdM cI cJ cZ qh B_h P_h N_h L_h E_h V_h G_h D_h O_h Z_h R_h I_h)) (rp_X7_asNow cI cJ cZ qh B_h P_h L_h E_h V_h G_h D_h O_h Z_h R_h I_h Q) := by
  refine KM_intro (lv := [(0, .ref (qh 0))]) false rfl (by decide) (Nat.le_of_ble_eq_true rfl) rfl (fun h => absurd h (by decide)) (fun v ws hq => by obtain ⟨N_h, rfl, rfl, _⟩ := hq; exact Or.inl ⟨rfl, rfl⟩) (fun A K C => ?_)
  refine k_iconst C dX7_asNow_0 1 rfl ?_
  refine k_istore_n C dX7_asNow_1 rfl (by decide) [(1, .int (iI 0)), (0, .ref (qh 0))] rfl 2 rfl ?_
  refine k_lv C [1, 0] [(0, .ref (qh 0)), (1, .int (iI 0))] rfl ?_
  obtain ⟨m2, h⟩ := h
  refine w_X7_asNow_2 C m2 0 N_h h (fun N_h h => ?_)
  · exact k_vret C dX7_asNow_38 ⟨N_h, rfl, rfl, h⟩

/-! X7_isIn -/
abbrev rm_X7_isIn : Room := { frames := 0, cells := 0, slots := 0, locals := 0 }
theorem sg_X7_isIn : yX7_isIn.cls ≠ "java/lang/invoke/MethodHandle" ∧ yX7_isIn.cls ≠ "java/lang/invoke/VarHandle" ∧ (parseMethodDescriptor yX7_isIn.desc).map (fun d => d.parameters.length) = some 1 := by decide +kernel
theorem hin_X7_isIn_7 : ∀ w ∈ wsX70, w ∈ wsX7_isIn := fun _ h => List.mem_cons_of_mem _ (List.mem_append_right _ h)
def rp_X7_isIn (cI cJ cZ : ClassId) (qh : Nat → Nat) (B_h : gMB) (P_h : gMP) (N_h : gMN) (L_h : gML) (E_h : gME) (V_h : gMV) (G_h : gMG) (D_h : gMD) (O_h : gMO) (Z_h : gMZ) (R_h : gMR) (I_h : gMI) (Q : Int → Prop) : Option Value → va_W → Prop := fun v w1 => ∃ (r : Int), v = some (.int (iI r)) ∧ w1 = (wdM cI cJ cZ qh B_h P_h N_h L_h E_h V_h G_h D_h O_h Z_h R_h I_h) ∧ (r = 0 ∨ r = 1) ∧ Q r
def wp_X7_isIn (N_h : gMN) (x1 : Int) (Q : Int → Prop) : Prop :=
    (0 ≤ x1 ∧ x1 < 10) ∧ rI (N_h.1 x1) ∧ (((N_h.1 x1) < 0 → Q 0) ∧ (¬ ((N_h.1 x1) < 0) → Q 1))

set_option maxHeartbeats 4000000 in
set_option maxRecDepth 20000 in
theorem c_X7_isIn {l : Launch} {D : va_G} {cI cJ cZ : ClassId} (qh : Nat → Nat) (B_h : gMB) (P_h : gMP) (N_h : gMN) (L_h : gML) (E_h : gME) (V_h : gMV) (G_h : gMG) (D_h : gMD) (O_h : gMO) (Z_h : gMZ) (R_h : gMR) (I_h : gMI) (x1 : Int) (Q : Int → Prop) (h : wp_X7_isIn N_h x1 Q) : KM l D (kT cI cJ cZ) 0 0 yX7_isIn wsX7_isIn rm_X7_isIn [.ref (qh 0), .int (iI x1)] ((wdM cI cJ cZ qh B_h P_h N_h L_h E_h V_h G_h D_h O_h Z_h R_h I_h)) (rp_X7_isIn cI cJ cZ qh B_h P_h N_h L_h E_h V_h G_h D_h O_h Z_h R_h I_h Q) := by
  refine KM_intro (lv := [(0, .ref (qh 0)), (1, .int (iI x1))]) false rfl (by decide) (Nat.le_of_ble_eq_true rfl) rfl (fun h => absurd h (by decide)) (fun v ws hq => by obtain ⟨r, rfl, rfl, hb, _⟩ := hq; exact Or.inr (Or.inr (Or.inl ⟨rfl, by rcases hb with rfl | rfl; exact Or.inl rfl; exact Or.inr rfl⟩))) (fun A K C => ?_)
  refine k_aload_n C dX7_isIn_0 0 rfl rfl 1 rfl ?_
  refine k_get C dX7_isIn_1 0 rfl (ci := 7) rfl hin_X7_isIn_7 11 (by decide) (List.mem_of_getElem? (i := 1) rfl) rfl 4 rfl ?_
  refine k_iload_n C dX7_isIn_4 1 rfl rfl 5 rfl ?_
  obtain ⟨hi5, h⟩ := h
  refine k_iaload C dX7_isIn_5 8 0 rfl rfl (by decide) hi5 6 rfl ?_
  obtain ⟨hr6a, h⟩ := h
  obtain ⟨ht, hf⟩ := h
  refine k_if_lt C dX7_isIn_6 hr6a 13 9 (by decide) rfl (fun hc6 => ?_) (fun hc6 => ?_)
  · have h := ht hc6; clear ht hf
    refine k_iconst C dX7_isIn_13 14 rfl ?_
    exact k_iret C dX7_isIn_14 ⟨0, rfl, rfl, (by decide), h⟩
  · have h := hf hc6; clear ht hf
    refine k_iconst C dX7_isIn_9 10 rfl ?_
    refine k_goto C dX7_isIn_10 14 (by decide) ?_
    exact k_iret C dX7_isIn_14 ⟨1, rfl, rfl, (by decide), h⟩

/-! X7_covers -/
abbrev rm_X7_covers : Room := { frames := 1, cells := 0, slots := 0, locals := 21 }
theorem sg_X7_covers : yX7_covers.cls ≠ "java/lang/invoke/MethodHandle" ∧ yX7_covers.cls ≠ "java/lang/invoke/VarHandle" ∧ (parseMethodDescriptor yX7_covers.desc).map (fun d => d.parameters.length) = some 2 := by decide +kernel
theorem hin_X7_covers_7 : ∀ w ∈ wsX70, w ∈ wsX7_covers := fun _ h => List.mem_cons_of_mem _ (List.mem_append_right _ h)
def rp_X7_covers (cI cJ cZ : ClassId) (qh : Nat → Nat) (B_h : gMB) (P_h : gMP) (N_h : gMN) (L_h : gML) (E_h : gME) (V_h : gMV) (G_h : gMG) (D_h : gMD) (O_h : gMO) (Z_h : gMZ) (R_h : gMR) (I_h : gMI) (Q : Int → Prop) : Option Value → va_W → Prop := fun v w1 => ∃ (r : Int), v = some (.int (iI r)) ∧ w1 = (wdM cI cJ cZ qh B_h P_h N_h L_h E_h V_h G_h D_h O_h Z_h R_h I_h) ∧ (r = 0 ∨ r = 1) ∧ Q r
def wp_X7_covers (B_h : gMB) (N_h : gMN) (x1 : Int) (x2 : Int) (Q : Int → Prop) : Prop :=
    wp_X7_isIn N_h x1 (fun (r2 : Int) => ((r2 = 0 → Q 0) ∧ (¬ (r2 = 0) → (0 ≤ x1 ∧ x1 < 10) ∧ rI x2 ∧ rI (N_h.2 x1) ∧ ((x2 < (N_h.2 x1) → Q 0) ∧ (¬ (x2 < (N_h.2 x1)) → rI ((N_h.2 x1) + (B_h.2.2.1 x1)) ∧ ((((N_h.2 x1) + (B_h.2.2.1 x1)) ≤ x2 → Q 0) ∧ (¬ (((N_h.2 x1) + (B_h.2.2.1 x1)) ≤ x2) → Q 1)))))))

set_option maxHeartbeats 4000000 in
set_option maxRecDepth 20000 in
theorem c_X7_covers {l : Launch} {D : va_G} {cI cJ cZ : ClassId} (qh : Nat → Nat) (B_h : gMB) (P_h : gMP) (N_h : gMN) (L_h : gML) (E_h : gME) (V_h : gMV) (G_h : gMG) (D_h : gMD) (O_h : gMO) (Z_h : gMZ) (R_h : gMR) (I_h : gMI) (x1 : Int) (x2 : Int) (Q : Int → Prop) (h : wp_X7_covers B_h N_h x1 x2 Q) : KM l D (kT cI cJ cZ) 0 0 yX7_covers wsX7_covers rm_X7_covers [.ref (qh 0), .int (iI x1), .int (iI x2)] ((wdM cI cJ cZ qh B_h P_h N_h L_h E_h V_h G_h D_h O_h Z_h R_h I_h)) (rp_X7_covers cI cJ cZ qh B_h P_h N_h L_h E_h V_h G_h D_h O_h Z_h R_h I_h Q) := by
  refine KM_intro (lv := [(0, .ref (qh 0)), (1, .int (iI x1)), (2, .int (iI x2))]) false rfl (by decide) (Nat.le_of_ble_eq_true rfl) rfl (fun h => absurd h (by decide)) (fun v ws hq => by obtain ⟨r, rfl, rfl, hb, _⟩ := hq; exact Or.inr (Or.inr (Or.inl ⟨rfl, by rcases hb with rfl | rfl; exact Or.inl rfl; exact Or.inr rfl⟩))) (fun A K C => ?_)
  refine k_aload_n C dX7_covers_0 0 rfl rfl 1 rfl ?_
  refine k_iload_n C dX7_covers_1 1 rfl rfl 2 rfl ?_
  have hM := c_X7_isIn (l := l) (D := D) (cI := cI) (cJ := cJ) (cZ := cZ) qh B_h P_h N_h L_h E_h V_h G_h D_h O_h Z_h R_h I_h x1 _ h
  refine k_callV C dX7_covers_2 hM gX7_covers_X7_isIn rfl sg_X7_isIn 7 rfl rfl rfl (Nat.le_of_ble_eq_true rfl) ⟨⟨rfl, rfl⟩, by decide, by decide⟩ ⟨Nat.le_refl 0, Nat.le_refl 0⟩ [0, 1, 2, 3, 4, 5, 6, 7, 8, 9, 10, 11, 12, 13, 14, 15, 16] [] rfl rfl rfl rfl (by decide) 0 0 ⟨rfl, rfl⟩ 5 rfl (fun v w1 hq2 => ?_)
  obtain ⟨r2, rfl, rfl, hb2, h⟩ := hq2
  refine k_perm C [0, 1, 2, 3, 4, 5, 6, 7, 8, 9, 10, 11, 12, 13, 14, 15, 16] [.int (iI r2)] ((wdM cI cJ cZ qh B_h P_h N_h L_h E_h V_h G_h D_h O_h Z_h R_h I_h)) rfl rfl rfl ?_
  obtain ⟨ht, hf⟩ := h
  refine k_if_eq C dX7_covers_5 (by rcases hb2 with rfl | rfl <;> decide) 39 8 (by decide) rfl (fun hc5 => ?_) (fun hc5 => ?_)
  · have h := ht hc5; clear ht hf
    refine k_iconst C dX7_covers_39 40 rfl ?_
    exact k_iret C dX7_covers_40 ⟨0, rfl, rfl, (by decide), h⟩
  · have h := hf hc5; clear ht hf
    refine k_iload_n C dX7_covers_8 2 rfl rfl 9 rfl ?_
    refine k_aload_n C dX7_covers_9 0 rfl rfl 10 rfl ?_
    refine k_get C dX7_covers_10 0 rfl (ci := 7) rfl hin_X7_covers_7 12 (by decide) (List.mem_of_getElem? (i := 1) rfl) rfl 13 rfl ?_
    refine k_iload_n C dX7_covers_13 1 rfl rfl 14 rfl ?_
    obtain ⟨hi14, h⟩ := h
    refine k_iaload C dX7_covers_14 9 0 rfl rfl (by decide) hi14 15 rfl ?_
    obtain ⟨hr15a, hr15b, h⟩ := h
    obtain ⟨ht, hf⟩ := h
    refine k_icmp_lt C dX7_covers_15 ⟨hr15a, hr15b⟩ 39 18 (by decide) rfl (fun hc15 => ?_) (fun hc15 => ?_)
    · have h := ht hc15; clear ht hf
      refine k_iconst C dX7_covers_39 40 rfl ?_
      exact k_iret C dX7_covers_40 ⟨0, rfl, rfl, (by decide), h⟩
    · have h := hf hc15; clear ht hf
      refine k_iload_n C dX7_covers_18 2 rfl rfl 19 rfl ?_
      refine k_aload_n C dX7_covers_19 0 rfl rfl 20 rfl ?_
      refine k_get C dX7_covers_20 0 rfl (ci := 7) rfl hin_X7_covers_7 12 (by decide) (List.mem_of_getElem? (i := 1) rfl) rfl 23 rfl ?_
      refine k_iload_n C dX7_covers_23 1 rfl rfl 24 rfl ?_
      refine k_iaload C dX7_covers_24 9 0 rfl rfl (by decide) hi14 25 rfl ?_
      refine k_aload_n C dX7_covers_25 0 rfl rfl 26 rfl ?_
      refine k_get C dX7_covers_26 0 rfl (ci := 7) rfl hin_X7_covers_7 2 (by decide) (List.mem_of_getElem? (i := 2) rfl) rfl 29 rfl ?_
      refine k_iload_n C dX7_covers_29 1 rfl rfl 30 rfl ?_
      refine k_iaload C dX7_covers_30 1 0 rfl rfl (by decide) hi14 31 rfl ?_
      refine k_iadd C dX7_covers_31 32 rfl ?_
      obtain ⟨hr32a, h⟩ := h
      obtain ⟨ht, hf⟩ := h
      refine k_icmp_ge C dX7_covers_32 ⟨hr15a, hr32a⟩ 39 35 (by decide) rfl (fun hc32 => ?_) (fun hc32 => ?_)
      · have h := ht hc32; clear ht hf
        refine k_iconst C dX7_covers_39 40 rfl ?_
        exact k_iret C dX7_covers_40 ⟨0, rfl, rfl, (by decide), h⟩
      · have h := hf hc32; clear ht hf
        refine k_iconst C dX7_covers_35 36 rfl ?_
        refine k_goto C dX7_covers_36 40 (by decide) ?_
        exact k_iret C dX7_covers_40 ⟨1, rfl, rfl, (by decide), h⟩

/-! X7_whose -/
abbrev rm_X7_whose : Room := { frames := 2, cells := 0, slots := 0, locals := 43 }
theorem sg_X7_whose : yX7_whose.cls ≠ "java/lang/invoke/MethodHandle" ∧ yX7_whose.cls ≠ "java/lang/invoke/VarHandle" ∧ (parseMethodDescriptor yX7_whose.desc).map (fun d => d.parameters.length) = some 2 := by decide +kernel
theorem hin_X7_whose_7 : ∀ w ∈ wsX70, w ∈ wsX7_whose := fun _ h => List.mem_cons_of_mem _ (List.mem_append_right _ h)
def rp_X7_whose (cI cJ cZ : ClassId) (qh : Nat → Nat) (B_h : gMB) (P_h : gMP) (N_h : gMN) (L_h : gML) (E_h : gME) (V_h : gMV) (G_h : gMG) (D_h : gMD) (O_h : gMO) (Z_h : gMZ) (R_h : gMR) (I_h : gMI) (Q : Int → Prop) : Option Value → va_W → Prop := fun v w1 => ∃ (r : Int), v = some (.int (iI r)) ∧ w1 = (wdM cI cJ cZ qh B_h P_h N_h L_h E_h V_h G_h D_h O_h Z_h R_h I_h) ∧ Q r
def wp_X7_whose_6 (B_h : gMB) (N_h : gMN) (K_47 : Int → Prop)  (Q : Int → Prop) : Nat → Int → Int → Int → Int → Prop
  | 0, _, _, _, _ => False
  | n6 + 1, x1, x2, x3, x4 =>
    rI x4 ∧ ((10 ≤ x4 → K_47 x3) ∧ (¬ (10 ≤ x4) → wp_X7_covers B_h N_h x4 x2 (fun (r17 : Int) => ((r17 = 0 → wp_X7_whose_6 B_h N_h K_47 Q n6 x1 x2 x3 (x4 + 1)) ∧ (¬ (r17 = 0) → (0 ≤ x4 ∧ x4 < 10) ∧ rI (N_h.1 x4) ∧ rI x1 ∧ ((¬ (N_h.1 x4) = x1 → wp_X7_whose_6 B_h N_h K_47 Q n6 x1 x2 x3 (x4 + 1)) ∧ (¬ (¬ (N_h.1 x4) = x1) → wp_X7_whose_6 B_h N_h K_47 Q n6 x1 x2 x4 (x4 + 1))))))))
def wp_X7_whose (B_h : gMB) (N_h : gMN) (x1 : Int) (x2 : Int) (Q : Int → Prop) : Prop :=
    ∃ m6, wp_X7_whose_6 B_h N_h (fun (x3 : Int) => Q x3) Q m6 x1 x2 (-6) 0
set_option maxHeartbeats 4000000 in
set_option maxRecDepth 20000 in
theorem w_X7_whose_6 {l : Launch} {D : va_G} {cI cJ cZ : ClassId} {A : Nat → Prop} {K : KT} {qh : Nat → Nat} {B_h : gMB} {P_h : gMP} {N_h : gMN} {L_h : gML} {E_h : gME} {V_h : gMV} {G_h : gMG} {D_h : gMD} {O_h : gMO} {Z_h : gMZ} {R_h : gMR} {I_h : gMI} {Q : Int → Prop} {K_47 : Int → Prop} (C : KC cX7_whose yX7_whose.cls wsX7_whose rm_X7_whose 5 D (kT cI cJ cZ) A l false (rp_X7_whose cI cJ cZ qh B_h P_h N_h L_h E_h V_h G_h D_h O_h Z_h R_h I_h Q) 0 0 K) : ∀ (n : Nat) (x1 : Int) (x2 : Int) (x3 : Int) (x4 : Int), wp_X7_whose_6 B_h N_h K_47 Q n x1 x2 x3 x4 → (∀ (x3 : Int), K_47 x3 → K 0 0 47 [(3, .int (iI x3))] [] ((wdM cI cJ cZ qh B_h P_h N_h L_h E_h V_h G_h D_h O_h Z_h R_h I_h))) → K 0 0 6 [(0, .ref (qh 0)), (1, .int (iI x1)), (2, .int (iI x2)), (3, .int (iI x3)), (4, .int (iI x4))] [] ((wdM cI cJ cZ qh B_h P_h N_h L_h E_h V_h G_h D_h O_h Z_h R_h I_h)) := by
  intro n
  induction n with
  | zero => intro x1 x2 x3 x4 h; exact h.elim
  | succ n ih =>
    intro x1 x2 x3 x4 h hK_47
    refine k_iload C dX7_whose_6 4 rfl 8 rfl ?_
    refine k_bipush C dX7_whose_8 (by decide) 10 rfl ?_
    obtain ⟨hr10a, h⟩ := h
    obtain ⟨ht, hf⟩ := h
    refine k_icmp_ge C dX7_whose_10 ⟨hr10a, (by decide)⟩ 47 13 (by decide) rfl (fun hc10 => ?_) (fun hc10 => ?_)
    · have h := ht hc10; clear ht hf
      refine k_lv C [3] [(3, .int (iI x3))] rfl ?_
      exact hK_47 x3 h
    · have h := hf hc10; clear ht hf
      refine k_aload_n C dX7_whose_13 0 rfl rfl 14 rfl ?_
      refine k_iload C dX7_whose_14 4 rfl 16 rfl ?_
      refine k_iload_n C dX7_whose_16 2 rfl rfl 17 rfl ?_
      have hM := c_X7_covers (l := l) (D := D) (cI := cI) (cJ := cJ) (cZ := cZ) qh B_h P_h N_h L_h E_h V_h G_h D_h O_h Z_h R_h I_h x4 x2 _ h
      refine k_callV C dX7_whose_17 hM gX7_whose_X7_covers rfl sg_X7_covers 7 rfl rfl rfl (Nat.le_of_ble_eq_true rfl) ⟨⟨rfl, rfl⟩, by decide, by decide⟩ ⟨Nat.le_refl 0, Nat.le_refl 0⟩ [0, 1, 2, 3, 4, 5, 6, 7, 8, 9, 10, 11, 12, 13, 14, 15, 16] [] rfl rfl rfl rfl (by decide) 0 0 ⟨rfl, rfl⟩ 20 rfl (fun v w1 hq17 => ?_)
      obtain ⟨r17, rfl, rfl, hb17, h⟩ := hq17
      refine k_perm C [0, 1, 2, 3, 4, 5, 6, 7, 8, 9, 10, 11, 12, 13, 14, 15, 16] [.int (iI r17)] ((wdM cI cJ cZ qh B_h P_h N_h L_h E_h V_h G_h D_h O_h Z_h R_h I_h)) rfl rfl rfl ?_
      obtain ⟨ht, hf⟩ := h
      refine k_if_eq C dX7_whose_20 (by rcases hb17 with rfl | rfl <;> decide) 39 23 (by decide) rfl (fun hc20 => ?_) (fun hc20 => ?_)
      · have h := ht hc20; clear ht hf
        refine k_iload_n C dX7_whose_39 3 rfl rfl 40 rfl ?_
        refine k_istore_n C dX7_whose_40 rfl (by decide) [(3, .int (iI x3)), (0, .ref (qh 0)), (1, .int (iI x1)), (2, .int (iI x2)), (4, .int (iI x4))] rfl 41 rfl ?_
        refine k_iinc (j := 4) C dX7_whose_41 rfl (by decide) [(4, .int (iI (x4 + 1))), (3, .int (iI x3)), (0, .ref (qh 0)), (1, .int (iI x1)), (2, .int (iI x2))] rfl 44 rfl ?_
        refine k_goto C dX7_whose_44 6 (by decide) ?_
        refine k_lv C [2, 3, 4, 1, 0] [(0, .ref (qh 0)), (1, .int (iI x1)), (2, .int (iI x2)), (3, .int (iI x3)), (4, .int (iI (x4 + 1)))] rfl ?_
        exact ih x1 x2 x3 (x4 + 1) h hK_47
      · have h := hf hc20; clear ht hf
        refine k_aload_n C dX7_whose_23 0 rfl rfl 24 rfl ?_
        refine k_get C dX7_whose_24 0 rfl (ci := 7) rfl hin_X7_whose_7 11 (by decide) (List.mem_of_getElem? (i := 1) rfl) rfl 27 rfl ?_
        refine k_iload C dX7_whose_27 4 rfl 29 rfl ?_
        obtain ⟨hi29, h⟩ := h
        refine k_iaload C dX7_whose_29 8 0 rfl rfl (by decide) hi29 30 rfl ?_
        refine k_iload_n C dX7_whose_30 1 rfl rfl 31 rfl ?_
        obtain ⟨hr31a, hr31b, h⟩ := h
        obtain ⟨ht, hf⟩ := h
        refine k_icmp_ne C dX7_whose_31 ⟨hr31a, hr31b⟩ 39 34 (by decide) rfl (fun hc31 => ?_) (fun hc31 => ?_)
        · have h := ht hc31; clear ht hf
          refine k_iload_n C dX7_whose_39 3 rfl rfl 40 rfl ?_
          refine k_istore_n C dX7_whose_40 rfl (by decide) [(3, .int (iI x3)), (0, .ref (qh 0)), (1, .int (iI x1)), (2, .int (iI x2)), (4, .int (iI x4))] rfl 41 rfl ?_
          refine k_iinc (j := 4) C dX7_whose_41 rfl (by decide) [(4, .int (iI (x4 + 1))), (3, .int (iI x3)), (0, .ref (qh 0)), (1, .int (iI x1)), (2, .int (iI x2))] rfl 44 rfl ?_
          refine k_goto C dX7_whose_44 6 (by decide) ?_
          refine k_lv C [2, 3, 4, 1, 0] [(0, .ref (qh 0)), (1, .int (iI x1)), (2, .int (iI x2)), (3, .int (iI x3)), (4, .int (iI (x4 + 1)))] rfl ?_
          exact ih x1 x2 x3 (x4 + 1) h hK_47
        · have h := hf hc31; clear ht hf
          refine k_iload C dX7_whose_34 4 rfl 36 rfl ?_
          refine k_goto C dX7_whose_36 40 (by decide) ?_
          refine k_istore_n C dX7_whose_40 rfl (by decide) [(3, .int (iI x4)), (0, .ref (qh 0)), (1, .int (iI x1)), (2, .int (iI x2)), (4, .int (iI x4))] rfl 41 rfl ?_
          refine k_iinc (j := 4) C dX7_whose_41 rfl (by decide) [(4, .int (iI (x4 + 1))), (3, .int (iI x4)), (0, .ref (qh 0)), (1, .int (iI x1)), (2, .int (iI x2))] rfl 44 rfl ?_
          refine k_goto C dX7_whose_44 6 (by decide) ?_
          refine k_lv C [2, 3, 4, 1, 0] [(0, .ref (qh 0)), (1, .int (iI x1)), (2, .int (iI x2)), (3, .int (iI x4)), (4, .int (iI (x4 + 1)))] rfl ?_
          exact ih x1 x2 x4 (x4 + 1) h hK_47
set_option maxHeartbeats 4000000 in
set_option maxRecDepth 20000 in
theorem c_X7_whose {l : Launch} {D : va_G} {cI cJ cZ : ClassId} (qh : Nat → Nat) (B_h : gMB) (P_h : gMP) (N_h : gMN) (L_h : gML) (E_h : gME) (V_h : gMV) (G_h : gMG) (D_h : gMD) (O_h : gMO) (Z_h : gMZ) (R_h : gMR) (I_h : gMI) (x1 : Int) (x2 : Int) (Q : Int → Prop) (h : wp_X7_whose B_h N_h x1 x2 Q) : KM l D (kT cI cJ cZ) 0 0 yX7_whose wsX7_whose rm_X7_whose [.ref (qh 0), .int (iI x1), .int (iI x2)] ((wdM cI cJ cZ qh B_h P_h N_h L_h E_h V_h G_h D_h O_h Z_h R_h I_h)) (rp_X7_whose cI cJ cZ qh B_h P_h N_h L_h E_h V_h G_h D_h O_h Z_h R_h I_h Q) := by
  refine KM_intro (lv := [(0, .ref (qh 0)), (1, .int (iI x1)), (2, .int (iI x2))]) false rfl (by decide) (Nat.le_of_ble_eq_true rfl) rfl (fun h => absurd h (by decide)) (fun v ws hq => by obtain ⟨r, rfl, rfl, _⟩ := hq; exact Or.inr (Or.inl ⟨rfl, _, rfl⟩)) (fun A K C => ?_)
  refine k_bipush C dX7_whose_0 (by decide) 2 rfl ?_
  refine k_istore_n C dX7_whose_2 rfl (by decide) [(3, .int (iI (-6))), (0, .ref (qh 0)), (1, .int (iI x1)), (2, .int (iI x2))] rfl 3 rfl ?_
  refine k_iconst C dX7_whose_3 4 rfl ?_
  refine k_istore C dX7_whose_4 (by decide) [(4, .int (iI 0)), (3, .int (iI (-6))), (0, .ref (qh 0)), (1, .int (iI x1)), (2, .int (iI x2))] rfl 6 rfl ?_
  refine k_lv C [2, 3, 4, 1, 0] [(0, .ref (qh 0)), (1, .int (iI x1)), (2, .int (iI x2)), (3, .int (iI (-6))), (4, .int (iI 0))] rfl ?_
  obtain ⟨m6, h⟩ := h
  refine w_X7_whose_6 C m6 x1 x2 (-6) 0 h (fun x3 h => ?_)
  · refine k_iload_n C dX7_whose_47 0 rfl rfl 48 rfl ?_
    exact k_iret C dX7_whose_48 ⟨x3, rfl, rfl, h⟩

/-! X7_heightOf -/
abbrev rm_X7_heightOf : Room := { frames := 2, cells := 0, slots := 0, locals := 43 }
theorem sg_X7_heightOf : yX7_heightOf.cls ≠ "java/lang/invoke/MethodHandle" ∧ yX7_heightOf.cls ≠ "java/lang/invoke/VarHandle" ∧ (parseMethodDescriptor yX7_heightOf.desc).map (fun d => d.parameters.length) = some 1 := by decide +kernel
theorem hin_X7_heightOf_7 : ∀ w ∈ wsX70, w ∈ wsX7_heightOf := fun _ h => List.mem_cons_of_mem _ (List.mem_append_right _ h)
def rp_X7_heightOf (cI cJ cZ : ClassId) (qh : Nat → Nat) (B_h : gMB) (P_h : gMP) (N_h : gMN) (L_h : gML) (E_h : gME) (V_h : gMV) (G_h : gMG) (D_h : gMD) (O_h : gMO) (Z_h : gMZ) (R_h : gMR) (I_h : gMI) (Q : Int → Prop) : Option Value → va_W → Prop := fun v w1 => ∃ (r : Int), v = some (.int (iI r)) ∧ w1 = (wdM cI cJ cZ qh B_h P_h N_h L_h E_h V_h G_h D_h O_h Z_h R_h I_h) ∧ Q r
def wp_X7_heightOf_4 (B_h : gMB) (N_h : gMN) (K_48 : Int → Prop)  (Q : Int → Prop) : Nat → Int → Int → Int → Prop
  | 0, _, _, _ => False
  | n4 + 1, x1, x2, x3 =>
    rI x3 ∧ ((10 ≤ x3 → K_48 x2) ∧ (¬ (10 ≤ x3) → wp_X7_covers B_h N_h x3 x1 (fun (r13 : Int) => ((r13 = 0 → wp_X7_heightOf_4 B_h N_h K_48 Q n4 x1 x2 (x3 + 1)) ∧ (¬ (r13 = 0) → (0 ≤ x3 ∧ x3 < 10) ∧ rI (N_h.1 x3) ∧ rI x2 ∧ (((N_h.1 x3) < x2 → wp_X7_heightOf_4 B_h N_h K_48 Q n4 x1 x2 (x3 + 1)) ∧ (¬ ((N_h.1 x3) < x2) → wp_X7_heightOf_4 B_h N_h K_48 Q n4 x1 ((N_h.1 x3) + 1) (x3 + 1))))))))
def wp_X7_heightOf (B_h : gMB) (N_h : gMN) (x1 : Int) (Q : Int → Prop) : Prop :=
    ∃ m4, wp_X7_heightOf_4 B_h N_h (fun (x2 : Int) => Q x2) Q m4 x1 0 0
set_option maxHeartbeats 4000000 in
set_option maxRecDepth 20000 in
theorem w_X7_heightOf_4 {l : Launch} {D : va_G} {cI cJ cZ : ClassId} {A : Nat → Prop} {K : KT} {qh : Nat → Nat} {B_h : gMB} {P_h : gMP} {N_h : gMN} {L_h : gML} {E_h : gME} {V_h : gMV} {G_h : gMG} {D_h : gMD} {O_h : gMO} {Z_h : gMZ} {R_h : gMR} {I_h : gMI} {Q : Int → Prop} {K_48 : Int → Prop} (C : KC cX7_heightOf yX7_heightOf.cls wsX7_heightOf rm_X7_heightOf 4 D (kT cI cJ cZ) A l false (rp_X7_heightOf cI cJ cZ qh B_h P_h N_h L_h E_h V_h G_h D_h O_h Z_h R_h I_h Q) 0 0 K) : ∀ (n : Nat) (x1 : Int) (x2 : Int) (x3 : Int), wp_X7_heightOf_4 B_h N_h K_48 Q n x1 x2 x3 → (∀ (x2 : Int), K_48 x2 → K 0 0 48 [(2, .int (iI x2))] [] ((wdM cI cJ cZ qh B_h P_h N_h L_h E_h V_h G_h D_h O_h Z_h R_h I_h))) → K 0 0 4 [(0, .ref (qh 0)), (1, .int (iI x1)), (2, .int (iI x2)), (3, .int (iI x3))] [] ((wdM cI cJ cZ qh B_h P_h N_h L_h E_h V_h G_h D_h O_h Z_h R_h I_h)) := by
  intro n
  induction n with
  | zero => intro x1 x2 x3 h; exact h.elim
  | succ n ih =>
    intro x1 x2 x3 h hK_48
    refine k_iload_n C dX7_heightOf_4 3 rfl rfl 5 rfl ?_
    refine k_bipush C dX7_heightOf_5 (by decide) 7 rfl ?_
    obtain ⟨hr7a, h⟩ := h
    obtain ⟨ht, hf⟩ := h
    refine k_icmp_ge C dX7_heightOf_7 ⟨hr7a, (by decide)⟩ 48 10 (by decide) rfl (fun hc7 => ?_) (fun hc7 => ?_)
    · have h := ht hc7; clear ht hf
      refine k_lv C [2] [(2, .int (iI x2))] rfl ?_
      exact hK_48 x2 h
    · have h := hf hc7; clear ht hf
      refine k_aload_n C dX7_heightOf_10 0 rfl rfl 11 rfl ?_
      refine k_iload_n C dX7_heightOf_11 3 rfl rfl 12 rfl ?_
      refine k_iload_n C dX7_heightOf_12 1 rfl rfl 13 rfl ?_
      have hM := c_X7_covers (l := l) (D := D) (cI := cI) (cJ := cJ) (cZ := cZ) qh B_h P_h N_h L_h E_h V_h G_h D_h O_h Z_h R_h I_h x3 x1 _ h
      refine k_callV C dX7_heightOf_13 hM gX7_heightOf_X7_covers rfl sg_X7_covers 7 rfl rfl rfl (Nat.le_of_ble_eq_true rfl) ⟨⟨rfl, rfl⟩, by decide, by decide⟩ ⟨Nat.le_refl 0, Nat.le_refl 0⟩ [0, 1, 2, 3, 4, 5, 6, 7, 8, 9, 10, 11, 12, 13, 14, 15, 16] [] rfl rfl rfl rfl (by decide) 0 0 ⟨rfl, rfl⟩ 16 rfl (fun v w1 hq13 => ?_)
      obtain ⟨r13, rfl, rfl, hb13, h⟩ := hq13
      refine k_perm C [0, 1, 2, 3, 4, 5, 6, 7, 8, 9, 10, 11, 12, 13, 14, 15, 16] [.int (iI r13)] ((wdM cI cJ cZ qh B_h P_h N_h L_h E_h V_h G_h D_h O_h Z_h R_h I_h)) rfl rfl rfl ?_
      obtain ⟨ht, hf⟩ := h
      refine k_if_eq C dX7_heightOf_16 (by rcases hb13 with rfl | rfl <;> decide) 40 19 (by decide) rfl (fun hc16 => ?_) (fun hc16 => ?_)
      · have h := ht hc16; clear ht hf
        refine k_iload_n C dX7_heightOf_40 2 rfl rfl 41 rfl ?_
        refine k_istore_n C dX7_heightOf_41 rfl (by decide) [(2, .int (iI x2)), (0, .ref (qh 0)), (1, .int (iI x1)), (3, .int (iI x3))] rfl 42 rfl ?_
        refine k_iinc (j := 3) C dX7_heightOf_42 rfl (by decide) [(3, .int (iI (x3 + 1))), (2, .int (iI x2)), (0, .ref (qh 0)), (1, .int (iI x1))] rfl 45 rfl ?_
        refine k_goto C dX7_heightOf_45 4 (by decide) ?_
        refine k_lv C [2, 3, 1, 0] [(0, .ref (qh 0)), (1, .int (iI x1)), (2, .int (iI x2)), (3, .int (iI (x3 + 1)))] rfl ?_
        exact ih x1 x2 (x3 + 1) h hK_48
      · have h := hf hc16; clear ht hf
        refine k_aload_n C dX7_heightOf_19 0 rfl rfl 20 rfl ?_
        refine k_get C dX7_heightOf_20 0 rfl (ci := 7) rfl hin_X7_heightOf_7 11 (by decide) (List.mem_of_getElem? (i := 1) rfl) rfl 23 rfl ?_
        refine k_iload_n C dX7_heightOf_23 3 rfl rfl 24 rfl ?_
        obtain ⟨hi24, h⟩ := h
        refine k_iaload C dX7_heightOf_24 8 0 rfl rfl (by decide) hi24 25 rfl ?_
        refine k_iload_n C dX7_heightOf_25 2 rfl rfl 26 rfl ?_
        obtain ⟨hr26a, hr26b, h⟩ := h
        obtain ⟨ht, hf⟩ := h
        refine k_icmp_lt C dX7_heightOf_26 ⟨hr26a, hr26b⟩ 40 29 (by decide) rfl (fun hc26 => ?_) (fun hc26 => ?_)
        · have h := ht hc26; clear ht hf
          refine k_iload_n C dX7_heightOf_40 2 rfl rfl 41 rfl ?_
          refine k_istore_n C dX7_heightOf_41 rfl (by decide) [(2, .int (iI x2)), (0, .ref (qh 0)), (1, .int (iI x1)), (3, .int (iI x3))] rfl 42 rfl ?_
          refine k_iinc (j := 3) C dX7_heightOf_42 rfl (by decide) [(3, .int (iI (x3 + 1))), (2, .int (iI x2)), (0, .ref (qh 0)), (1, .int (iI x1))] rfl 45 rfl ?_
          refine k_goto C dX7_heightOf_45 4 (by decide) ?_
          refine k_lv C [2, 3, 1, 0] [(0, .ref (qh 0)), (1, .int (iI x1)), (2, .int (iI x2)), (3, .int (iI (x3 + 1)))] rfl ?_
          exact ih x1 x2 (x3 + 1) h hK_48
        · have h := hf hc26; clear ht hf
          refine k_aload_n C dX7_heightOf_29 0 rfl rfl 30 rfl ?_
          refine k_get C dX7_heightOf_30 0 rfl (ci := 7) rfl hin_X7_heightOf_7 11 (by decide) (List.mem_of_getElem? (i := 1) rfl) rfl 33 rfl ?_
          refine k_iload_n C dX7_heightOf_33 3 rfl rfl 34 rfl ?_
          refine k_iaload C dX7_heightOf_34 8 0 rfl rfl (by decide) hi24 35 rfl ?_
          refine k_iconst C dX7_heightOf_35 36 rfl ?_
          refine k_iadd C dX7_heightOf_36 37 rfl ?_
          refine k_goto C dX7_heightOf_37 41 (by decide) ?_
          refine k_istore_n C dX7_heightOf_41 rfl (by decide) [(2, .int (iI ((N_h.1 x3) + 1))), (0, .ref (qh 0)), (1, .int (iI x1)), (3, .int (iI x3))] rfl 42 rfl ?_
          refine k_iinc (j := 3) C dX7_heightOf_42 rfl (by decide) [(3, .int (iI (x3 + 1))), (2, .int (iI ((N_h.1 x3) + 1))), (0, .ref (qh 0)), (1, .int (iI x1))] rfl 45 rfl ?_
          refine k_goto C dX7_heightOf_45 4 (by decide) ?_
          refine k_lv C [2, 3, 1, 0] [(0, .ref (qh 0)), (1, .int (iI x1)), (2, .int (iI ((N_h.1 x3) + 1))), (3, .int (iI (x3 + 1)))] rfl ?_
          exact ih x1 ((N_h.1 x3) + 1) (x3 + 1) h hK_48
set_option maxHeartbeats 4000000 in
set_option maxRecDepth 20000 in
theorem c_X7_heightOf {l : Launch} {D : va_G} {cI cJ cZ : ClassId} (qh : Nat → Nat) (B_h : gMB) (P_h : gMP) (N_h : gMN) (L_h : gML) (E_h : gME) (V_h : gMV) (G_h : gMG) (D_h : gMD) (O_h : gMO) (Z_h : gMZ) (R_h : gMR) (I_h : gMI) (x1 : Int) (Q : Int → Prop) (h : wp_X7_heightOf B_h N_h x1 Q) : KM l D (kT cI cJ cZ) 0 0 yX7_heightOf wsX7_heightOf rm_X7_heightOf [.ref (qh 0), .int (iI x1)] ((wdM cI cJ cZ qh B_h P_h N_h L_h E_h V_h G_h D_h O_h Z_h R_h I_h)) (rp_X7_heightOf cI cJ cZ qh B_h P_h N_h L_h E_h V_h G_h D_h O_h Z_h R_h I_h Q) := by
  refine KM_intro (lv := [(0, .ref (qh 0)), (1, .int (iI x1))]) false rfl (by decide) (Nat.le_of_ble_eq_true rfl) rfl (fun h => absurd h (by decide)) (fun v ws hq => by obtain ⟨r, rfl, rfl, _⟩ := hq; exact Or.inr (Or.inl ⟨rfl, _, rfl⟩)) (fun A K C => ?_)
  refine k_iconst C dX7_heightOf_0 1 rfl ?_
  refine k_istore_n C dX7_heightOf_1 rfl (by decide) [(2, .int (iI 0)), (0, .ref (qh 0)), (1, .int (iI x1))] rfl 2 rfl ?_
  refine k_iconst C dX7_heightOf_2 3 rfl ?_
  refine k_istore_n C dX7_heightOf_3 rfl (by decide) [(3, .int (iI 0)), (2, .int (iI 0)), (0, .ref (qh 0)), (1, .int (iI x1))] rfl 4 rfl ?_
  refine k_lv C [2, 3, 1, 0] [(0, .ref (qh 0)), (1, .int (iI x1)), (2, .int (iI 0)), (3, .int (iI 0))] rfl ?_
  obtain ⟨m4, h⟩ := h
  refine w_X7_heightOf_4 C m4 x1 0 0 h (fun x2 h => ?_)
  · refine k_iload_n C dX7_heightOf_48 0 rfl rfl 49 rfl ?_
    exact k_iret C dX7_heightOf_49 ⟨x2, rfl, rfl, h⟩

/-! X7_highest -/
abbrev rm_X7_highest : Room := { frames := 3, cells := 0, slots := 0, locals := 66 }
theorem sg_X7_highest : yX7_highest.cls ≠ "java/lang/invoke/MethodHandle" ∧ yX7_highest.cls ≠ "java/lang/invoke/VarHandle" ∧ (parseMethodDescriptor yX7_highest.desc).map (fun d => d.parameters.length) = some 0 := by decide +kernel
theorem hin_X7_highest_7 : ∀ w ∈ wsX70, w ∈ wsX7_highest := fun _ h => List.mem_cons_of_mem _ (List.mem_append_right _ h)
def rp_X7_highest (cI cJ cZ : ClassId) (qh : Nat → Nat) (B_h : gMB) (P_h : gMP) (N_h : gMN) (L_h : gML) (E_h : gME) (V_h : gMV) (G_h : gMG) (D_h : gMD) (O_h : gMO) (Z_h : gMZ) (R_h : gMR) (I_h : gMI) (Q : Int → Prop) : Option Value → va_W → Prop := fun v w1 => ∃ (r : Int), v = some (.int (iI r)) ∧ w1 = (wdM cI cJ cZ qh B_h P_h N_h L_h E_h V_h G_h D_h O_h Z_h R_h I_h) ∧ Q r
def wp_X7_highest_4 (B_h : gMB) (N_h : gMN) (K_37 : Int → Prop)  (Q : Int → Prop) : Nat → Int → Int → Prop
  | 0, _, _ => False
  | n4 + 1, x1, x2 =>
    rI x2 ∧ rI B_h.1 ∧ ((B_h.1 ≤ x2 → K_37 x1) ∧ (¬ (B_h.1 ≤ x2) → wp_X7_heightOf B_h N_h x2 (fun (r14 : Int) => rI r14 ∧ rI x1 ∧ ((r14 ≤ x1 → wp_X7_highest_4 B_h N_h K_37 Q n4 x1 (x2 + 1)) ∧ (¬ (r14 ≤ x1) → wp_X7_heightOf B_h N_h x2 (fun (r23 : Int) => wp_X7_highest_4 B_h N_h K_37 Q n4 r23 (x2 + 1)))))))
def wp_X7_highest (B_h : gMB) (N_h : gMN) (Q : Int → Prop) : Prop :=
    ∃ m4, wp_X7_highest_4 B_h N_h (fun (x1 : Int) => Q x1) Q m4 0 0
set_option maxHeartbeats 4000000 in
set_option maxRecDepth 20000 in
theorem w_X7_highest_4 {l : Launch} {D : va_G} {cI cJ cZ : ClassId} {A : Nat → Prop} {K : KT} {qh : Nat → Nat} {B_h : gMB} {P_h : gMP} {N_h : gMN} {L_h : gML} {E_h : gME} {V_h : gMV} {G_h : gMG} {D_h : gMD} {O_h : gMO} {Z_h : gMZ} {R_h : gMR} {I_h : gMI} {Q : Int → Prop} {K_37 : Int → Prop} (C : KC cX7_highest yX7_highest.cls wsX7_highest rm_X7_highest 3 D (kT cI cJ cZ) A l false (rp_X7_highest cI cJ cZ qh B_h P_h N_h L_h E_h V_h G_h D_h O_h Z_h R_h I_h Q) 0 0 K) : ∀ (n : Nat) (x1 : Int) (x2 : Int), wp_X7_highest_4 B_h N_h K_37 Q n x1 x2 → (∀ (x1 : Int), K_37 x1 → K 0 0 37 [(1, .int (iI x1))] [] ((wdM cI cJ cZ qh B_h P_h N_h L_h E_h V_h G_h D_h O_h Z_h R_h I_h))) → K 0 0 4 [(0, .ref (qh 0)), (1, .int (iI x1)), (2, .int (iI x2))] [] ((wdM cI cJ cZ qh B_h P_h N_h L_h E_h V_h G_h D_h O_h Z_h R_h I_h)) := by
  intro n
  induction n with
  | zero => intro x1 x2 h; exact h.elim
  | succ n ih =>
    intro x1 x2 h hK_37
    refine k_iload_n C dX7_highest_4 2 rfl rfl 5 rfl ?_
    refine k_aload_n C dX7_highest_5 0 rfl rfl 6 rfl ?_
    refine k_get C dX7_highest_6 0 rfl (ci := 7) rfl hin_X7_highest_7 0 (by decide) (List.mem_of_getElem? (i := 1) rfl) rfl 9 rfl ?_
    obtain ⟨hr9a, hr9b, h⟩ := h
    obtain ⟨ht, hf⟩ := h
    refine k_icmp_ge C dX7_highest_9 ⟨hr9a, hr9b⟩ 37 12 (by decide) rfl (fun hc9 => ?_) (fun hc9 => ?_)
    · have h := ht hc9; clear ht hf
      refine k_lv C [1] [(1, .int (iI x1))] rfl ?_
      exact hK_37 x1 h
    · have h := hf hc9; clear ht hf
      refine k_aload_n C dX7_highest_12 0 rfl rfl 13 rfl ?_
      refine k_iload_n C dX7_highest_13 2 rfl rfl 14 rfl ?_
      have hM := c_X7_heightOf (l := l) (D := D) (cI := cI) (cJ := cJ) (cZ := cZ) qh B_h P_h N_h L_h E_h V_h G_h D_h O_h Z_h R_h I_h x2 _ h
      refine k_callV C dX7_highest_14 hM gX7_highest_X7_heightOf rfl sg_X7_heightOf 7 rfl rfl rfl (Nat.le_of_ble_eq_true rfl) ⟨⟨rfl, rfl⟩, by decide, by decide⟩ ⟨Nat.le_refl 0, Nat.le_refl 0⟩ [0, 1, 2, 3, 4, 5, 6, 7, 8, 9, 10, 11, 12, 13, 14, 15, 16] [] rfl rfl rfl rfl (by decide) 0 0 ⟨rfl, rfl⟩ 17 rfl (fun v w1 hq14 => ?_)
      obtain ⟨r14, rfl, rfl, h⟩ := hq14
      refine k_perm C [0, 1, 2, 3, 4, 5, 6, 7, 8, 9, 10, 11, 12, 13, 14, 15, 16] [.int (iI r14)] ((wdM cI cJ cZ qh B_h P_h N_h L_h E_h V_h G_h D_h O_h Z_h R_h I_h)) rfl rfl rfl ?_
      refine k_iload_n C dX7_highest_17 1 rfl rfl 18 rfl ?_
      obtain ⟨hr18a, hr18b, h⟩ := h
      obtain ⟨ht, hf⟩ := h
      refine k_icmp_le C dX7_highest_18 ⟨hr18a, hr18b⟩ 29 21 (by decide) rfl (fun hc18 => ?_) (fun hc18 => ?_)
      · have h := ht hc18; clear ht hf
        refine k_iload_n C dX7_highest_29 1 rfl rfl 30 rfl ?_
        refine k_istore_n C dX7_highest_30 rfl (by decide) [(1, .int (iI x1)), (0, .ref (qh 0)), (2, .int (iI x2))] rfl 31 rfl ?_
        refine k_iinc (j := 2) C dX7_highest_31 rfl (by decide) [(2, .int (iI (x2 + 1))), (1, .int (iI x1)), (0, .ref (qh 0))] rfl 34 rfl ?_
        refine k_goto C dX7_highest_34 4 (by decide) ?_
        refine k_lv C [2, 1, 0] [(0, .ref (qh 0)), (1, .int (iI x1)), (2, .int (iI (x2 + 1)))] rfl ?_
        exact ih x1 (x2 + 1) h hK_37
      · have h := hf hc18; clear ht hf
        refine k_aload_n C dX7_highest_21 0 rfl rfl 22 rfl ?_
        refine k_iload_n C dX7_highest_22 2 rfl rfl 23 rfl ?_
        have hM := c_X7_heightOf (l := l) (D := D) (cI := cI) (cJ := cJ) (cZ := cZ) qh B_h P_h N_h L_h E_h V_h G_h D_h O_h Z_h R_h I_h x2 _ h
        refine k_callV C dX7_highest_23 hM gX7_highest_X7_heightOf rfl sg_X7_heightOf 7 rfl rfl rfl (Nat.le_of_ble_eq_true rfl) ⟨⟨rfl, rfl⟩, by decide, by decide⟩ ⟨Nat.le_refl 0, Nat.le_refl 0⟩ [0, 1, 2, 3, 4, 5, 6, 7, 8, 9, 10, 11, 12, 13, 14, 15, 16] [] rfl rfl rfl rfl (by decide) 0 0 ⟨rfl, rfl⟩ 26 rfl (fun v w1 hq23 => ?_)
        obtain ⟨r23, rfl, rfl, h⟩ := hq23
        refine k_perm C [0, 1, 2, 3, 4, 5, 6, 7, 8, 9, 10, 11, 12, 13, 14, 15, 16] [.int (iI r23)] ((wdM cI cJ cZ qh B_h P_h N_h L_h E_h V_h G_h D_h O_h Z_h R_h I_h)) rfl rfl rfl ?_
        refine k_goto C dX7_highest_26 30 (by decide) ?_
        refine k_istore_n C dX7_highest_30 rfl (by decide) [(1, .int (iI r23)), (0, .ref (qh 0)), (2, .int (iI x2))] rfl 31 rfl ?_
        refine k_iinc (j := 2) C dX7_highest_31 rfl (by decide) [(2, .int (iI (x2 + 1))), (1, .int (iI r23)), (0, .ref (qh 0))] rfl 34 rfl ?_
        refine k_goto C dX7_highest_34 4 (by decide) ?_
        refine k_lv C [2, 1, 0] [(0, .ref (qh 0)), (1, .int (iI r23)), (2, .int (iI (x2 + 1)))] rfl ?_
        exact ih r23 (x2 + 1) h hK_37
set_option maxHeartbeats 4000000 in
set_option maxRecDepth 20000 in
theorem c_X7_highest {l : Launch} {D : va_G} {cI cJ cZ : ClassId} (qh : Nat → Nat) (B_h : gMB) (P_h : gMP) (N_h : gMN) (L_h : gML) (E_h : gME) (V_h : gMV) (G_h : gMG) (D_h : gMD) (O_h : gMO) (Z_h : gMZ) (R_h : gMR) (I_h : gMI) (Q : Int → Prop) (h : wp_X7_highest B_h N_h Q) : KM l D (kT cI cJ cZ) 0 0 yX7_highest wsX7_highest rm_X7_highest [.ref (qh 0)] ((wdM cI cJ cZ qh B_h P_h N_h L_h E_h V_h G_h D_h O_h Z_h R_h I_h)) (rp_X7_highest cI cJ cZ qh B_h P_h N_h L_h E_h V_h G_h D_h O_h Z_h R_h I_h Q) := by
  refine KM_intro (lv := [(0, .ref (qh 0))]) false rfl (by decide) (Nat.le_of_ble_eq_true rfl) rfl (fun h => absurd h (by decide)) (fun v ws hq => by obtain ⟨r, rfl, rfl, _⟩ := hq; exact Or.inr (Or.inl ⟨rfl, _, rfl⟩)) (fun A K C => ?_)
  refine k_iconst C dX7_highest_0 1 rfl ?_
  refine k_istore_n C dX7_highest_1 rfl (by decide) [(1, .int (iI 0)), (0, .ref (qh 0))] rfl 2 rfl ?_
  refine k_iconst C dX7_highest_2 3 rfl ?_
  refine k_istore_n C dX7_highest_3 rfl (by decide) [(2, .int (iI 0)), (1, .int (iI 0)), (0, .ref (qh 0))] rfl 4 rfl ?_
  refine k_lv C [2, 1, 0] [(0, .ref (qh 0)), (1, .int (iI 0)), (2, .int (iI 0))] rfl ?_
  obtain ⟨m4, h⟩ := h
  refine w_X7_highest_4 C m4 0 0 h (fun x1 h => ?_)
  · refine k_iload_n C dX7_highest_37 0 rfl rfl 38 rfl ?_
    exact k_iret C dX7_highest_38 ⟨x1, rfl, rfl, h⟩

/-! X7_held -/
abbrev rm_X7_held : Room := { frames := 3, cells := 0, slots := 0, locals := 67 }
theorem sg_X7_held : yX7_held.cls ≠ "java/lang/invoke/MethodHandle" ∧ yX7_held.cls ≠ "java/lang/invoke/VarHandle" ∧ (parseMethodDescriptor yX7_held.desc).map (fun d => d.parameters.length) = some 1 := by decide +kernel
theorem hin_X7_held_7 : ∀ w ∈ wsX70, w ∈ wsX7_held := fun _ h => List.mem_cons_of_mem _ (List.mem_append_right _ h)
def rp_X7_held (cI cJ cZ : ClassId) (qh : Nat → Nat) (B_h : gMB) (P_h : gMP) (N_h : gMN) (L_h : gML) (E_h : gME) (V_h : gMV) (G_h : gMG) (D_h : gMD) (O_h : gMO) (Z_h : gMZ) (R_h : gMR) (I_h : gMI) (Q : Int → Prop) : Option Value → va_W → Prop := fun v w1 => ∃ (r : Int), v = some (.int (iI r)) ∧ w1 = (wdM cI cJ cZ qh B_h P_h N_h L_h E_h V_h G_h D_h O_h Z_h R_h I_h) ∧ Q r
def wp_X7_held_9 (B_h : gMB) (N_h : gMN) (K_65 : Int → Prop)  (Q : Int → Prop) : Nat → Int → Int → Int → Prop
  | 0, _, _, _ => False
  | n9 + 1, x1, x2, x3 =>
    (0 ≤ x1 ∧ x1 < 10) ∧ rI x3 ∧ rI ((N_h.2 x1) + (B_h.2.2.1 x1)) ∧ ((((N_h.2 x1) + (B_h.2.2.1 x1)) ≤ x3 → K_65 x2) ∧ (¬ (((N_h.2 x1) + (B_h.2.2.1 x1)) ≤ x3) → rI (N_h.1 x1) ∧ (((N_h.1 x1) = 0 → wp_X7_held_9 B_h N_h K_65 Q n9 x1 (x2 + 1) (x3 + 1)) ∧ (¬ ((N_h.1 x1) = 0) → wp_X7_whose B_h N_h ((N_h.1 x1) - 1) x3 (fun (r46 : Int) => rI r46 ∧ ((r46 < 0 → wp_X7_held_9 B_h N_h K_65 Q n9 x1 (x2 + 0) (x3 + 1)) ∧ (¬ (r46 < 0) → wp_X7_held_9 B_h N_h K_65 Q n9 x1 (x2 + 1) (x3 + 1))))))))
def wp_X7_held (B_h : gMB) (N_h : gMN) (x1 : Int) (Q : Int → Prop) : Prop :=
    (0 ≤ x1 ∧ x1 < 10) ∧ ∃ m9, wp_X7_held_9 B_h N_h (fun (x2 : Int) => Q x2) Q m9 x1 0 (N_h.2 x1)
set_option maxHeartbeats 4000000 in
set_option maxRecDepth 20000 in
theorem w_X7_held_9 {l : Launch} {D : va_G} {cI cJ cZ : ClassId} {A : Nat → Prop} {K : KT} {qh : Nat → Nat} {B_h : gMB} {P_h : gMP} {N_h : gMN} {L_h : gML} {E_h : gME} {V_h : gMV} {G_h : gMG} {D_h : gMD} {O_h : gMO} {Z_h : gMZ} {R_h : gMR} {I_h : gMI} {Q : Int → Prop} {K_65 : Int → Prop} (C : KC cX7_held yX7_held.cls wsX7_held rm_X7_held 4 D (kT cI cJ cZ) A l false (rp_X7_held cI cJ cZ qh B_h P_h N_h L_h E_h V_h G_h D_h O_h Z_h R_h I_h Q) 0 0 K) : ∀ (n : Nat) (x1 : Int) (x2 : Int) (x3 : Int), wp_X7_held_9 B_h N_h K_65 Q n x1 x2 x3 → (∀ (x2 : Int), K_65 x2 → K 0 0 65 [(2, .int (iI x2))] [] ((wdM cI cJ cZ qh B_h P_h N_h L_h E_h V_h G_h D_h O_h Z_h R_h I_h))) → K 0 0 9 [(0, .ref (qh 0)), (1, .int (iI x1)), (2, .int (iI x2)), (3, .int (iI x3))] [] ((wdM cI cJ cZ qh B_h P_h N_h L_h E_h V_h G_h D_h O_h Z_h R_h I_h)) := by
  intro n
  induction n with
  | zero => intro x1 x2 x3 h; exact h.elim
  | succ n ih =>
    intro x1 x2 x3 h hK_65
    refine k_iload_n C dX7_held_9 3 rfl rfl 10 rfl ?_
    refine k_aload_n C dX7_held_10 0 rfl rfl 11 rfl ?_
    refine k_get C dX7_held_11 0 rfl (ci := 7) rfl hin_X7_held_7 12 (by decide) (List.mem_of_getElem? (i := 1) rfl) rfl 14 rfl ?_
    refine k_iload_n C dX7_held_14 1 rfl rfl 15 rfl ?_
    obtain ⟨hi15, h⟩ := h
    refine k_iaload C dX7_held_15 9 0 rfl rfl (by decide) hi15 16 rfl ?_
    refine k_aload_n C dX7_held_16 0 rfl rfl 17 rfl ?_
    refine k_get C dX7_held_17 0 rfl (ci := 7) rfl hin_X7_held_7 2 (by decide) (List.mem_of_getElem? (i := 2) rfl) rfl 20 rfl ?_
    refine k_iload_n C dX7_held_20 1 rfl rfl 21 rfl ?_
    refine k_iaload C dX7_held_21 1 0 rfl rfl (by decide) hi15 22 rfl ?_
    refine k_iadd C dX7_held_22 23 rfl ?_
    obtain ⟨hr23a, hr23b, h⟩ := h
    obtain ⟨ht, hf⟩ := h
    refine k_icmp_ge C dX7_held_23 ⟨hr23a, hr23b⟩ 65 26 (by decide) rfl (fun hc23 => ?_) (fun hc23 => ?_)
    · have h := ht hc23; clear ht hf
      refine k_lv C [2] [(2, .int (iI x2))] rfl ?_
      exact hK_65 x2 h
    · have h := hf hc23; clear ht hf
      refine k_iload_n C dX7_held_26 2 rfl rfl 27 rfl ?_
      refine k_aload_n C dX7_held_27 0 rfl rfl 28 rfl ?_
      refine k_get C dX7_held_28 0 rfl (ci := 7) rfl hin_X7_held_7 11 (by decide) (List.mem_of_getElem? (i := 3) rfl) rfl 31 rfl ?_
      refine k_iload_n C dX7_held_31 1 rfl rfl 32 rfl ?_
      refine k_iaload C dX7_held_32 8 0 rfl rfl (by decide) hi15 33 rfl ?_
      obtain ⟨hr33a, h⟩ := h
      obtain ⟨ht, hf⟩ := h
      refine k_if_eq C dX7_held_33 hr33a 52 36 (by decide) rfl (fun hc33 => ?_) (fun hc33 => ?_)
      · have h := ht hc33; clear ht hf
        refine k_iconst C dX7_held_52 53 rfl ?_
        refine k_goto C dX7_held_53 57 (by decide) ?_
        refine k_iadd C dX7_held_57 58 rfl ?_
        refine k_istore_n C dX7_held_58 rfl (by decide) [(2, .int (iI (x2 + 1))), (0, .ref (qh 0)), (1, .int (iI x1)), (3, .int (iI x3))] rfl 59 rfl ?_
        refine k_iinc (j := 3) C dX7_held_59 rfl (by decide) [(3, .int (iI (x3 + 1))), (2, .int (iI (x2 + 1))), (0, .ref (qh 0)), (1, .int (iI x1))] rfl 62 rfl ?_
        refine k_goto C dX7_held_62 9 (by decide) ?_
        refine k_lv C [2, 3, 1, 0] [(0, .ref (qh 0)), (1, .int (iI x1)), (2, .int (iI (x2 + 1))), (3, .int (iI (x3 + 1)))] rfl ?_
        exact ih x1 (x2 + 1) (x3 + 1) h hK_65
      · have h := hf hc33; clear ht hf
        refine k_aload_n C dX7_held_36 0 rfl rfl 37 rfl ?_
        refine k_aload_n C dX7_held_37 0 rfl rfl 38 rfl ?_
        refine k_get C dX7_held_38 0 rfl (ci := 7) rfl hin_X7_held_7 11 (by decide) (List.mem_of_getElem? (i := 3) rfl) rfl 41 rfl ?_
        refine k_iload_n C dX7_held_41 1 rfl rfl 42 rfl ?_
        refine k_iaload C dX7_held_42 8 0 rfl rfl (by decide) hi15 43 rfl ?_
        refine k_iconst C dX7_held_43 44 rfl ?_
        refine k_isub C dX7_held_44 45 rfl ?_
        refine k_iload_n C dX7_held_45 3 rfl rfl 46 rfl ?_
        have hM := c_X7_whose (l := l) (D := D) (cI := cI) (cJ := cJ) (cZ := cZ) qh B_h P_h N_h L_h E_h V_h G_h D_h O_h Z_h R_h I_h ((N_h.1 x1) - 1) x3 _ h
        refine k_callV C dX7_held_46 hM gX7_held_X7_whose rfl sg_X7_whose 7 rfl rfl rfl (Nat.le_of_ble_eq_true rfl) ⟨⟨rfl, rfl⟩, by decide, by decide⟩ ⟨Nat.le_refl 0, Nat.le_refl 0⟩ [0, 1, 2, 3, 4, 5, 6, 7, 8, 9, 10, 11, 12, 13, 14, 15, 16] [] rfl rfl rfl rfl (by decide) 0 0 ⟨rfl, rfl⟩ 49 rfl (fun v w1 hq46 => ?_)
        obtain ⟨r46, rfl, rfl, h⟩ := hq46
        refine k_perm C [0, 1, 2, 3, 4, 5, 6, 7, 8, 9, 10, 11, 12, 13, 14, 15, 16] [.int (iI r46), .int (iI x2)] ((wdM cI cJ cZ qh B_h P_h N_h L_h E_h V_h G_h D_h O_h Z_h R_h I_h)) rfl rfl rfl ?_
        obtain ⟨hr49a, h⟩ := h
        obtain ⟨ht, hf⟩ := h
        refine k_if_lt C dX7_held_49 hr49a 56 52 (by decide) rfl (fun hc49 => ?_) (fun hc49 => ?_)
        · have h := ht hc49; clear ht hf
          refine k_iconst C dX7_held_56 57 rfl ?_
          refine k_iadd C dX7_held_57 58 rfl ?_
          refine k_istore_n C dX7_held_58 rfl (by decide) [(2, .int (iI (x2 + 0))), (0, .ref (qh 0)), (1, .int (iI x1)), (3, .int (iI x3))] rfl 59 rfl ?_
          refine k_iinc (j := 3) C dX7_held_59 rfl (by decide) [(3, .int (iI (x3 + 1))), (2, .int (iI (x2 + 0))), (0, .ref (qh 0)), (1, .int (iI x1))] rfl 62 rfl ?_
          refine k_goto C dX7_held_62 9 (by decide) ?_
          refine k_lv C [2, 3, 1, 0] [(0, .ref (qh 0)), (1, .int (iI x1)), (2, .int (iI (x2 + 0))), (3, .int (iI (x3 + 1)))] rfl ?_
          exact ih x1 (x2 + 0) (x3 + 1) h hK_65
        · have h := hf hc49; clear ht hf
          refine k_iconst C dX7_held_52 53 rfl ?_
          refine k_goto C dX7_held_53 57 (by decide) ?_
          refine k_iadd C dX7_held_57 58 rfl ?_
          refine k_istore_n C dX7_held_58 rfl (by decide) [(2, .int (iI (x2 + 1))), (0, .ref (qh 0)), (1, .int (iI x1)), (3, .int (iI x3))] rfl 59 rfl ?_
          refine k_iinc (j := 3) C dX7_held_59 rfl (by decide) [(3, .int (iI (x3 + 1))), (2, .int (iI (x2 + 1))), (0, .ref (qh 0)), (1, .int (iI x1))] rfl 62 rfl ?_
          refine k_goto C dX7_held_62 9 (by decide) ?_
          refine k_lv C [2, 3, 1, 0] [(0, .ref (qh 0)), (1, .int (iI x1)), (2, .int (iI (x2 + 1))), (3, .int (iI (x3 + 1)))] rfl ?_
          exact ih x1 (x2 + 1) (x3 + 1) h hK_65
set_option maxHeartbeats 4000000 in
set_option maxRecDepth 20000 in
theorem c_X7_held {l : Launch} {D : va_G} {cI cJ cZ : ClassId} (qh : Nat → Nat) (B_h : gMB) (P_h : gMP) (N_h : gMN) (L_h : gML) (E_h : gME) (V_h : gMV) (G_h : gMG) (D_h : gMD) (O_h : gMO) (Z_h : gMZ) (R_h : gMR) (I_h : gMI) (x1 : Int) (Q : Int → Prop) (h : wp_X7_held B_h N_h x1 Q) : KM l D (kT cI cJ cZ) 0 0 yX7_held wsX7_held rm_X7_held [.ref (qh 0), .int (iI x1)] ((wdM cI cJ cZ qh B_h P_h N_h L_h E_h V_h G_h D_h O_h Z_h R_h I_h)) (rp_X7_held cI cJ cZ qh B_h P_h N_h L_h E_h V_h G_h D_h O_h Z_h R_h I_h Q) := by
  refine KM_intro (lv := [(0, .ref (qh 0)), (1, .int (iI x1))]) false rfl (by decide) (Nat.le_of_ble_eq_true rfl) rfl (fun h => absurd h (by decide)) (fun v ws hq => by obtain ⟨r, rfl, rfl, _⟩ := hq; exact Or.inr (Or.inl ⟨rfl, _, rfl⟩)) (fun A K C => ?_)
  refine k_iconst C dX7_held_0 1 rfl ?_
  refine k_istore_n C dX7_held_1 rfl (by decide) [(2, .int (iI 0)), (0, .ref (qh 0)), (1, .int (iI x1))] rfl 2 rfl ?_
  refine k_aload_n C dX7_held_2 1 rfl rfl 3 rfl ?_
  refine k_get C dX7_held_3 0 rfl (ci := 7) rfl hin_X7_held_7 12 (by decide) (List.mem_of_getElem? (i := 1) rfl) rfl 6 rfl ?_
  refine k_iload_n C dX7_held_6 2 rfl rfl 7 rfl ?_
  obtain ⟨hi7, h⟩ := h
  refine k_iaload C dX7_held_7 9 0 rfl rfl (by decide) hi7 8 rfl ?_
  refine k_istore_n C dX7_held_8 rfl (by decide) [(3, .int (iI (N_h.2 x1))), (2, .int (iI 0)), (0, .ref (qh 0)), (1, .int (iI x1))] rfl 9 rfl ?_
  refine k_lv C [2, 3, 1, 0] [(0, .ref (qh 0)), (1, .int (iI x1)), (2, .int (iI 0)), (3, .int (iI (N_h.2 x1)))] rfl ?_
  obtain ⟨m9, h⟩ := h
  refine w_X7_held_9 C m9 x1 0 (N_h.2 x1) h (fun x2 h => ?_)
  · refine k_iload_n C dX7_held_65 0 rfl rfl 66 rfl ?_
    exact k_iret C dX7_held_66 ⟨x2, rfl, rfl, h⟩

/-! X7_stands -/
abbrev rm_X7_stands : Room := { frames := 4, cells := 0, slots := 0, locals := 90 }
theorem sg_X7_stands : yX7_stands.cls ≠ "java/lang/invoke/MethodHandle" ∧ yX7_stands.cls ≠ "java/lang/invoke/VarHandle" ∧ (parseMethodDescriptor yX7_stands.desc).map (fun d => d.parameters.length) = some 1 := by decide +kernel
theorem hin_X7_stands_7 : ∀ w ∈ wsX70, w ∈ wsX7_stands := fun _ h => List.mem_cons_of_mem _ (List.mem_append_right _ h)
def rp_X7_stands (cI cJ cZ : ClassId) (qh : Nat → Nat) (B_h : gMB) (P_h : gMP) (N_h : gMN) (L_h : gML) (E_h : gME) (V_h : gMV) (G_h : gMG) (D_h : gMD) (O_h : gMO) (Z_h : gMZ) (R_h : gMR) (I_h : gMI) (Q : Int → Prop) : Option Value → va_W → Prop := fun v w1 => ∃ (r : Int), v = some (.int (iI r)) ∧ w1 = (wdM cI cJ cZ qh B_h P_h N_h L_h E_h V_h G_h D_h O_h Z_h R_h I_h) ∧ (r = 0 ∨ r = 1) ∧ Q r
def wp_X7_stands (B_h : gMB) (N_h : gMN) (x1 : Int) (Q : Int → Prop) : Prop :=
    wp_X7_held B_h N_h x1 (fun (r3 : Int) => (0 ≤ x1 ∧ x1 < 10) ∧ rI (2 * r3) ∧ rI (B_h.2.2.1 x1) ∧ (((2 * r3) < (B_h.2.2.1 x1) → Q 0) ∧ (¬ ((2 * r3) < (B_h.2.2.1 x1)) → Q 1)))

set_option maxHeartbeats 4000000 in
set_option maxRecDepth 20000 in
theorem c_X7_stands {l : Launch} {D : va_G} {cI cJ cZ : ClassId} (qh : Nat → Nat) (B_h : gMB) (P_h : gMP) (N_h : gMN) (L_h : gML) (E_h : gME) (V_h : gMV) (G_h : gMG) (D_h : gMD) (O_h : gMO) (Z_h : gMZ) (R_h : gMR) (I_h : gMI) (x1 : Int) (Q : Int → Prop) (h : wp_X7_stands B_h N_h x1 Q) : KM l D (kT cI cJ cZ) 0 0 yX7_stands wsX7_stands rm_X7_stands [.ref (qh 0), .int (iI x1)] ((wdM cI cJ cZ qh B_h P_h N_h L_h E_h V_h G_h D_h O_h Z_h R_h I_h)) (rp_X7_stands cI cJ cZ qh B_h P_h N_h L_h E_h V_h G_h D_h O_h Z_h R_h I_h Q) := by
  refine KM_intro (lv := [(0, .ref (qh 0)), (1, .int (iI x1))]) false rfl (by decide) (Nat.le_of_ble_eq_true rfl) rfl (fun h => absurd h (by decide)) (fun v ws hq => by obtain ⟨r, rfl, rfl, hb, _⟩ := hq; exact Or.inr (Or.inr (Or.inl ⟨rfl, by rcases hb with rfl | rfl; exact Or.inl rfl; exact Or.inr rfl⟩))) (fun A K C => ?_)
  refine k_iconst C dX7_stands_0 1 rfl ?_
  refine k_aload_n C dX7_stands_1 0 rfl rfl 2 rfl ?_
  refine k_iload_n C dX7_stands_2 1 rfl rfl 3 rfl ?_
  have hM := c_X7_held (l := l) (D := D) (cI := cI) (cJ := cJ) (cZ := cZ) qh B_h P_h N_h L_h E_h V_h G_h D_h O_h Z_h R_h I_h x1 _ h
  refine k_callV C dX7_stands_3 hM gX7_stands_X7_held rfl sg_X7_held 7 rfl rfl rfl (Nat.le_of_ble_eq_true rfl) ⟨⟨rfl, rfl⟩, by decide, by decide⟩ ⟨Nat.le_refl 0, Nat.le_refl 0⟩ [0, 1, 2, 3, 4, 5, 6, 7, 8, 9, 10, 11, 12, 13, 14, 15, 16] [] rfl rfl rfl rfl (by decide) 0 0 ⟨rfl, rfl⟩ 6 rfl (fun v w1 hq3 => ?_)
  obtain ⟨r3, rfl, rfl, h⟩ := hq3
  refine k_perm C [0, 1, 2, 3, 4, 5, 6, 7, 8, 9, 10, 11, 12, 13, 14, 15, 16] [.int (iI r3), .int (iI 2)] ((wdM cI cJ cZ qh B_h P_h N_h L_h E_h V_h G_h D_h O_h Z_h R_h I_h)) rfl rfl rfl ?_
  refine k_imul C dX7_stands_6 7 rfl ?_
  refine k_aload_n C dX7_stands_7 0 rfl rfl 8 rfl ?_
  refine k_get C dX7_stands_8 0 rfl (ci := 7) rfl hin_X7_stands_7 2 (by decide) (List.mem_of_getElem? (i := 1) rfl) rfl 11 rfl ?_
  refine k_iload_n C dX7_stands_11 1 rfl rfl 12 rfl ?_
  obtain ⟨hi12, h⟩ := h
  refine k_iaload C dX7_stands_12 1 0 rfl rfl (by decide) hi12 13 rfl ?_
  obtain ⟨hr13a, hr13b, h⟩ := h
  obtain ⟨ht, hf⟩ := h
  refine k_icmp_lt C dX7_stands_13 ⟨hr13a, hr13b⟩ 20 16 (by decide) rfl (fun hc13 => ?_) (fun hc13 => ?_)
  · have h := ht hc13; clear ht hf
    refine k_iconst C dX7_stands_20 21 rfl ?_
    exact k_iret C dX7_stands_21 ⟨0, rfl, rfl, (by decide), h⟩
  · have h := hf hc13; clear ht hf
    refine k_iconst C dX7_stands_16 17 rfl ?_
    refine k_goto C dX7_stands_17 21 (by decide) ?_
    exact k_iret C dX7_stands_21 ⟨1, rfl, rfl, (by decide), h⟩

/-! X7_layLoads -/
abbrev rm_X7_layLoads : Room := { frames := 4, cells := 0, slots := 0, locals := 90 }
theorem sg_X7_layLoads : yX7_layLoads.cls ≠ "java/lang/invoke/MethodHandle" ∧ yX7_layLoads.cls ≠ "java/lang/invoke/VarHandle" ∧ (parseMethodDescriptor yX7_layLoads.desc).map (fun d => d.parameters.length) = some 0 := by decide +kernel
theorem hin_X7_layLoads_7 : ∀ w ∈ wsX70, w ∈ wsX7_layLoads := fun _ h => List.mem_cons_of_mem _ (List.mem_append_right _ h)
def rp_X7_layLoads (cI cJ cZ : ClassId) (qh : Nat → Nat) (B_h : gMB) (P_h : gMP) (N_h : gMN) (E_h : gME) (V_h : gMV) (G_h : gMG) (D_h : gMD) (O_h : gMO) (Z_h : gMZ) (R_h : gMR) (I_h : gMI) (Q : gML → Prop) : Option Value → va_W → Prop := fun v w1 => ∃ (L_h : gML), v = none ∧ w1 = (wdM cI cJ cZ qh B_h P_h N_h L_h E_h V_h G_h D_h O_h Z_h R_h I_h) ∧ Q L_h
def wp_X7_layLoads_2 (K_21 : gML → Prop)  (Q : gML → Prop) : Nat → Int → gML → Prop
  | 0, _, _ => False
  | n2 + 1, x1, L_h =>
    rI x1 ∧ ((10 ≤ x1 → K_21 L_h) ∧ (¬ (10 ≤ x1) → (0 ≤ x1 ∧ x1 < 10) ∧ wp_X7_layLoads_2 K_21 Q n2 (x1 + 1) (aset L_h x1 0)))
def wp_X7_layLoads_88 (B_h : gMB) (N_h : gMN) (K_139 : Int → Int → gML → Prop)  (Q : gML → Prop) : Nat → Int → Int → Int → Int → gML → Prop
  | 0, _, _, _, _, _ => False
  | n88 + 1, x1, x2, x3, x5, L_h =>
    (0 ≤ x2 ∧ x2 < 10) ∧ rI x5 ∧ rI ((N_h.2 x2) + (B_h.2.2.1 x2)) ∧ ((((N_h.2 x2) + (B_h.2.2.1 x2)) ≤ x5 → K_139 x1 x2 L_h) ∧ (¬ (((N_h.2 x2) + (B_h.2.2.1 x2)) ≤ x5) → wp_X7_whose B_h N_h (x1 - 1) x5 (fun (r112 : Int) => rI r112 ∧ ((r112 < 0 → wp_X7_layLoads_88 B_h N_h K_139 Q n88 x1 x2 x3 (x5 + 1) L_h) ∧ (¬ (r112 < 0) → (0 ≤ r112 ∧ r112 < 10) ∧ wp_X7_layLoads_88 B_h N_h K_139 Q n88 x1 x2 x3 (x5 + 1) (aset L_h r112 ((L_h r112) + x3)))))))
def wp_X7_layLoads_30 (B_h : gMB) (N_h : gMN) (K_145 : Int → gML → Prop)  (Q : gML → Prop) : Nat → Int → Int → gML → Prop
  | 0, _, _, _ => False
  | n30 + 1, x1, x2, L_h =>
    rI x2 ∧ ((10 ≤ x2 → K_145 x1 L_h) ∧ (¬ (10 ≤ x2) → (0 ≤ x2 ∧ x2 < 10) ∧ rI (N_h.1 x2) ∧ rI x1 ∧ ((¬ (N_h.1 x2) = x1 → wp_X7_layLoads_30 B_h N_h K_145 Q n30 x1 (x2 + 1) L_h) ∧ (¬ (¬ (N_h.1 x2) = x1) → wp_X7_held B_h N_h x2 (fun (r48 : Int) => rI r48 ∧ ((r48 ≤ 0 → wp_X7_layLoads_30 B_h N_h K_145 Q n30 x1 (x2 + 1) L_h) ∧ (¬ (r48 ≤ 0) → rI (B_h.2.2.2.1 x2) ∧ wp_X7_held B_h N_h x2 (fun (r74 : Int) => rI r74 ∧ ¬ r74 = 0 ∧ rL ((L_h x2) + (60466176 * (B_h.2.2.2.1 x2))) ∧ rL r74 ∧ ∃ m88, wp_X7_layLoads_88 B_h N_h (fun (x1 : Int) (x2 : Int) (L_h : gML) => wp_X7_layLoads_30 B_h N_h K_145 Q n30 x1 (x2 + 1) L_h) Q m88 x1 x2 (((L_h x2) + (60466176 * (B_h.2.2.2.1 x2))).tdiv r74) (N_h.2 x2) L_h))))))))
def wp_X7_layLoads_24 (B_h : gMB) (N_h : gMN) (K_151 : gML → Prop)  (Q : gML → Prop) : Nat → Int → gML → Prop
  | 0, _, _ => False
  | n24 + 1, x1, L_h =>
    rI x1 ∧ ((x1 ≤ 0 → K_151 L_h) ∧ (¬ (x1 ≤ 0) → ∃ m30, wp_X7_layLoads_30 B_h N_h (fun (x1 : Int) (L_h : gML) => wp_X7_layLoads_24 B_h N_h K_151 Q n24 (x1 + (-1)) L_h) Q m30 x1 0 L_h))
def wp_X7_layLoads (B_h : gMB) (N_h : gMN) (L_h : gML) (Q : gML → Prop) : Prop :=
    ∃ m2, wp_X7_layLoads_2 (fun (L_h : gML) => ∃ m24, wp_X7_layLoads_24 B_h N_h (fun (L_h : gML) => Q L_h) Q m24 9 L_h) Q m2 0 L_h
set_option maxHeartbeats 4000000 in
set_option maxRecDepth 20000 in
theorem w_X7_layLoads_2 {l : Launch} {D : va_G} {cI cJ cZ : ClassId} {A : Nat → Prop} {K : KT} {qh : Nat → Nat} {B_h : gMB} {P_h : gMP} {N_h : gMN} {E_h : gME} {V_h : gMV} {G_h : gMG} {D_h : gMD} {O_h : gMO} {Z_h : gMZ} {R_h : gMR} {I_h : gMI} {Q : gML → Prop} {K_21 : gML → Prop} (C : KC cX7_layLoads yX7_layLoads.cls wsX7_layLoads rm_X7_layLoads 7 D (kT cI cJ cZ) A l false (rp_X7_layLoads cI cJ cZ qh B_h P_h N_h E_h V_h G_h D_h O_h Z_h R_h I_h Q) 0 0 K) : ∀ (n : Nat) (x1 : Int) (L_h : gML), wp_X7_layLoads_2 K_21 Q n x1 L_h → (∀ (L_h : gML), K_21 L_h → K 0 0 21 [(0, .ref (qh 0))] [] ((wdM cI cJ cZ qh B_h P_h N_h L_h E_h V_h G_h D_h O_h Z_h R_h I_h))) → K 0 0 2 [(0, .ref (qh 0)), (1, .int (iI x1))] [] ((wdM cI cJ cZ qh B_h P_h N_h L_h E_h V_h G_h D_h O_h Z_h R_h I_h)) := by
  intro n
  induction n with
  | zero => intro x1 L_h h; exact h.elim
  | succ n ih =>
    intro x1 L_h h hK_21
    refine k_iload_n C dX7_layLoads_2 1 rfl rfl 3 rfl ?_
    refine k_bipush C dX7_layLoads_3 (by decide) 5 rfl ?_
    obtain ⟨hr5a, h⟩ := h
    obtain ⟨ht, hf⟩ := h
    refine k_icmp_ge C dX7_layLoads_5 ⟨hr5a, (by decide)⟩ 21 8 (by decide) rfl (fun hc5 => ?_) (fun hc5 => ?_)
    · have h := ht hc5; clear ht hf
      refine k_lv C [0] [(0, .ref (qh 0))] rfl ?_
      exact hK_21 L_h h
    · have h := hf hc5; clear ht hf
      refine k_aload_n C dX7_layLoads_8 0 rfl rfl 9 rfl ?_
      refine k_get C dX7_layLoads_9 0 rfl (ci := 7) rfl hin_X7_layLoads_7 13 (by decide) (List.mem_of_getElem? (i := 1) rfl) rfl 12 rfl ?_
      refine k_iload_n C dX7_layLoads_12 1 rfl rfl 13 rfl ?_
      refine k_lconst (v := 0) C dX7_layLoads_13 (by decide) 14 rfl ?_
      obtain ⟨hi14, h⟩ := h
      refine k_lastore C dX7_layLoads_14 10 1 rfl rfl (by decide) hi14 ((wdM cI cJ cZ qh B_h P_h N_h (aset L_h x1 0) E_h V_h G_h D_h O_h Z_h R_h I_h)) rfl 15 rfl ?_
      refine k_iinc (j := 1) C dX7_layLoads_15 rfl (by decide) [(1, .int (iI (x1 + 1))), (0, .ref (qh 0))] rfl 18 rfl ?_
      refine k_goto C dX7_layLoads_18 2 (by decide) ?_
      refine k_lv C [1, 0] [(0, .ref (qh 0)), (1, .int (iI (x1 + 1)))] rfl ?_
      exact ih (x1 + 1) (aset L_h x1 0) h hK_21
set_option maxHeartbeats 4000000 in
set_option maxRecDepth 20000 in
theorem w_X7_layLoads_88 {l : Launch} {D : va_G} {cI cJ cZ : ClassId} {A : Nat → Prop} {K : KT} {qh : Nat → Nat} {B_h : gMB} {P_h : gMP} {N_h : gMN} {E_h : gME} {V_h : gMV} {G_h : gMG} {D_h : gMD} {O_h : gMO} {Z_h : gMZ} {R_h : gMR} {I_h : gMI} {Q : gML → Prop} {K_139 : Int → Int → gML → Prop} (C : KC cX7_layLoads yX7_layLoads.cls wsX7_layLoads rm_X7_layLoads 7 D (kT cI cJ cZ) A l false (rp_X7_layLoads cI cJ cZ qh B_h P_h N_h E_h V_h G_h D_h O_h Z_h R_h I_h Q) 0 0 K) : ∀ (n : Nat) (x1 : Int) (x2 : Int) (x3 : Int) (x5 : Int) (L_h : gML), wp_X7_layLoads_88 B_h N_h K_139 Q n x1 x2 x3 x5 L_h → (∀ (x1 : Int) (x2 : Int) (L_h : gML), K_139 x1 x2 L_h → K 0 0 139 [(0, .ref (qh 0)), (1, .int (iI x1)), (2, .int (iI x2))] [] ((wdM cI cJ cZ qh B_h P_h N_h L_h E_h V_h G_h D_h O_h Z_h R_h I_h))) → K 0 0 88 [(0, .ref (qh 0)), (1, .int (iI x1)), (2, .int (iI x2)), (3, .long (lL x3)), (5, .int (iI x5))] [] ((wdM cI cJ cZ qh B_h P_h N_h L_h E_h V_h G_h D_h O_h Z_h R_h I_h)) := by
  intro n
  induction n with
  | zero => intro x1 x2 x3 x5 L_h h; exact h.elim
  | succ n ih =>
    intro x1 x2 x3 x5 L_h h hK_139
    refine k_iload C dX7_layLoads_88 4 rfl 90 rfl ?_
    refine k_aload_n C dX7_layLoads_90 0 rfl rfl 91 rfl ?_
    refine k_get C dX7_layLoads_91 0 rfl (ci := 7) rfl hin_X7_layLoads_7 12 (by decide) (List.mem_of_getElem? (i := 5) rfl) rfl 94 rfl ?_
    refine k_iload_n C dX7_layLoads_94 2 rfl rfl 95 rfl ?_
    obtain ⟨hi95, h⟩ := h
    refine k_iaload C dX7_layLoads_95 9 0 rfl rfl (by decide) hi95 96 rfl ?_
    refine k_aload_n C dX7_layLoads_96 0 rfl rfl 97 rfl ?_
    refine k_get C dX7_layLoads_97 0 rfl (ci := 7) rfl hin_X7_layLoads_7 2 (by decide) (List.mem_of_getElem? (i := 6) rfl) rfl 100 rfl ?_
    refine k_iload_n C dX7_layLoads_100 2 rfl rfl 101 rfl ?_
    refine k_iaload C dX7_layLoads_101 1 0 rfl rfl (by decide) hi95 102 rfl ?_
    refine k_iadd C dX7_layLoads_102 103 rfl ?_
    obtain ⟨hr103a, hr103b, h⟩ := h
    obtain ⟨ht, hf⟩ := h
    refine k_icmp_ge C dX7_layLoads_103 ⟨hr103a, hr103b⟩ 139 106 (by decide) rfl (fun hc103 => ?_) (fun hc103 => ?_)
    · have h := ht hc103; clear ht hf
      refine k_lv C [0, 1, 2] [(0, .ref (qh 0)), (1, .int (iI x1)), (2, .int (iI x2))] rfl ?_
      exact hK_139 x1 x2 L_h h
    · have h := hf hc103; clear ht hf
      refine k_aload_n C dX7_layLoads_106 0 rfl rfl 107 rfl ?_
      refine k_iload_n C dX7_layLoads_107 1 rfl rfl 108 rfl ?_
      refine k_iconst C dX7_layLoads_108 109 rfl ?_
      refine k_isub C dX7_layLoads_109 110 rfl ?_
      refine k_iload C dX7_layLoads_110 4 rfl 112 rfl ?_
      have hM := c_X7_whose (l := l) (D := D) (cI := cI) (cJ := cJ) (cZ := cZ) qh B_h P_h N_h L_h E_h V_h G_h D_h O_h Z_h R_h I_h (x1 - 1) x5 _ h
      refine k_callV C dX7_layLoads_112 hM gX7_layLoads_X7_whose rfl sg_X7_whose 7 rfl rfl rfl (Nat.le_of_ble_eq_true rfl) ⟨⟨rfl, rfl⟩, by decide, by decide⟩ ⟨Nat.le_refl 0, Nat.le_refl 0⟩ [0, 1, 2, 3, 4, 5, 6, 7, 8, 9, 10, 11, 12, 13, 14, 15, 16] [] rfl rfl rfl rfl (by decide) 0 0 ⟨rfl, rfl⟩ 115 rfl (fun v w1 hq112 => ?_)
      obtain ⟨r112, rfl, rfl, h⟩ := hq112
      refine k_perm C [0, 1, 2, 3, 4, 5, 6, 7, 8, 9, 10, 11, 12, 13, 14, 15, 16] [.int (iI r112)] ((wdM cI cJ cZ qh B_h P_h N_h L_h E_h V_h G_h D_h O_h Z_h R_h I_h)) rfl rfl rfl ?_
      refine k_istore C dX7_layLoads_115 (by decide) [(6, .int (iI r112)), (0, .ref (qh 0)), (1, .int (iI x1)), (2, .int (iI x2)), (3, .long (lL x3)), (5, .int (iI x5))] rfl 117 rfl ?_
      refine k_iload C dX7_layLoads_117 0 rfl 119 rfl ?_
      obtain ⟨hr119a, h⟩ := h
      obtain ⟨ht, hf⟩ := h
      refine k_if_lt C dX7_layLoads_119 hr119a 133 122 (by decide) rfl (fun hc119 => ?_) (fun hc119 => ?_)
      · have h := ht hc119; clear ht hf
        refine k_iinc (j := 5) C dX7_layLoads_133 rfl (by decide) [(5, .int (iI (x5 + 1))), (6, .int (iI r112)), (0, .ref (qh 0)), (1, .int (iI x1)), (2, .int (iI x2)), (3, .long (lL x3))] rfl 136 rfl ?_
        refine k_goto C dX7_layLoads_136 88 (by decide) ?_
        refine k_lv C [2, 3, 4, 5, 0] [(0, .ref (qh 0)), (1, .int (iI x1)), (2, .int (iI x2)), (3, .long (lL x3)), (5, .int (iI (x5 + 1)))] rfl ?_
        exact ih x1 x2 x3 (x5 + 1) L_h h hK_139
      · have h := hf hc119; clear ht hf
        refine k_aload_n C dX7_layLoads_122 1 rfl rfl 123 rfl ?_
        refine k_get C dX7_layLoads_123 0 rfl (ci := 7) rfl hin_X7_layLoads_7 13 (by decide) (List.mem_of_getElem? (i := 1) rfl) rfl 126 rfl ?_
        refine k_iload C dX7_layLoads_126 0 rfl 128 rfl ?_
        refine k_dup2 C dX7_layLoads_128 rfl rfl 129 rfl ?_
        obtain ⟨hi129, h⟩ := h
        refine k_laload C dX7_layLoads_129 10 1 rfl rfl (by decide) hi129 130 rfl ?_
        refine k_lload_n C dX7_layLoads_130 4 rfl rfl 131 rfl ?_
        refine k_ladd C dX7_layLoads_131 132 rfl ?_
        refine k_lastore C dX7_layLoads_132 10 1 rfl rfl (by decide) hi129 ((wdM cI cJ cZ qh B_h P_h N_h (aset L_h r112 ((L_h r112) + x3)) E_h V_h G_h D_h O_h Z_h R_h I_h)) rfl 133 rfl ?_
        refine k_iinc (j := 5) C dX7_layLoads_133 rfl (by decide) [(5, .int (iI (x5 + 1))), (6, .int (iI r112)), (0, .ref (qh 0)), (1, .int (iI x1)), (2, .int (iI x2)), (3, .long (lL x3))] rfl 136 rfl ?_
        refine k_goto C dX7_layLoads_136 88 (by decide) ?_
        refine k_lv C [2, 3, 4, 5, 0] [(0, .ref (qh 0)), (1, .int (iI x1)), (2, .int (iI x2)), (3, .long (lL x3)), (5, .int (iI (x5 + 1)))] rfl ?_
        exact ih x1 x2 x3 (x5 + 1) (aset L_h r112 ((L_h r112) + x3)) h hK_139
set_option maxHeartbeats 4000000 in
set_option maxRecDepth 20000 in
theorem w_X7_layLoads_30 {l : Launch} {D : va_G} {cI cJ cZ : ClassId} {A : Nat → Prop} {K : KT} {qh : Nat → Nat} {B_h : gMB} {P_h : gMP} {N_h : gMN} {E_h : gME} {V_h : gMV} {G_h : gMG} {D_h : gMD} {O_h : gMO} {Z_h : gMZ} {R_h : gMR} {I_h : gMI} {Q : gML → Prop} {K_145 : Int → gML → Prop} (C : KC cX7_layLoads yX7_layLoads.cls wsX7_layLoads rm_X7_layLoads 7 D (kT cI cJ cZ) A l false (rp_X7_layLoads cI cJ cZ qh B_h P_h N_h E_h V_h G_h D_h O_h Z_h R_h I_h Q) 0 0 K) : ∀ (n : Nat) (x1 : Int) (x2 : Int) (L_h : gML), wp_X7_layLoads_30 B_h N_h K_145 Q n x1 x2 L_h → (∀ (x1 : Int) (L_h : gML), K_145 x1 L_h → K 0 0 145 [(0, .ref (qh 0)), (1, .int (iI x1))] [] ((wdM cI cJ cZ qh B_h P_h N_h L_h E_h V_h G_h D_h O_h Z_h R_h I_h))) → K 0 0 30 [(0, .ref (qh 0)), (1, .int (iI x1)), (2, .int (iI x2))] [] ((wdM cI cJ cZ qh B_h P_h N_h L_h E_h V_h G_h D_h O_h Z_h R_h I_h)) := by
  intro n
  induction n with
  | zero => intro x1 x2 L_h h; exact h.elim
  | succ n ih =>
    intro x1 x2 L_h h hK_145
    refine k_iload_n C dX7_layLoads_30 2 rfl rfl 31 rfl ?_
    refine k_bipush C dX7_layLoads_31 (by decide) 33 rfl ?_
    obtain ⟨hr33a, h⟩ := h
    obtain ⟨ht, hf⟩ := h
    refine k_icmp_ge C dX7_layLoads_33 ⟨hr33a, (by decide)⟩ 145 36 (by decide) rfl (fun hc33 => ?_) (fun hc33 => ?_)
    · have h := ht hc33; clear ht hf
      refine k_lv C [0, 1] [(0, .ref (qh 0)), (1, .int (iI x1))] rfl ?_
      exact hK_145 x1 L_h h
    · have h := hf hc33; clear ht hf
      refine k_aload_n C dX7_layLoads_36 0 rfl rfl 37 rfl ?_
      refine k_get C dX7_layLoads_37 0 rfl (ci := 7) rfl hin_X7_layLoads_7 11 (by decide) (List.mem_of_getElem? (i := 2) rfl) rfl 40 rfl ?_
      refine k_iload_n C dX7_layLoads_40 2 rfl rfl 41 rfl ?_
      obtain ⟨hi41, h⟩ := h
      refine k_iaload C dX7_layLoads_41 8 0 rfl rfl (by decide) hi41 42 rfl ?_
      refine k_iload_n C dX7_layLoads_42 1 rfl rfl 43 rfl ?_
      obtain ⟨hr43a, hr43b, h⟩ := h
      obtain ⟨ht, hf⟩ := h
      refine k_icmp_ne C dX7_layLoads_43 ⟨hr43a, hr43b⟩ 139 46 (by decide) rfl (fun hc43 => ?_) (fun hc43 => ?_)
      · have h := ht hc43; clear ht hf
        refine k_iinc (j := 2) C dX7_layLoads_139 rfl (by decide) [(2, .int (iI (x2 + 1))), (0, .ref (qh 0)), (1, .int (iI x1))] rfl 142 rfl ?_
        refine k_goto C dX7_layLoads_142 30 (by decide) ?_
        refine k_lv C [1, 2, 0] [(0, .ref (qh 0)), (1, .int (iI x1)), (2, .int (iI (x2 + 1)))] rfl ?_
        exact ih x1 (x2 + 1) L_h h hK_145
      · have h := hf hc43; clear ht hf
        refine k_aload_n C dX7_layLoads_46 0 rfl rfl 47 rfl ?_
        refine k_iload_n C dX7_layLoads_47 2 rfl rfl 48 rfl ?_
        have hM := c_X7_held (l := l) (D := D) (cI := cI) (cJ := cJ) (cZ := cZ) qh B_h P_h N_h L_h E_h V_h G_h D_h O_h Z_h R_h I_h x2 _ h
        refine k_callV C dX7_layLoads_48 hM gX7_layLoads_X7_held rfl sg_X7_held 7 rfl rfl rfl (Nat.le_of_ble_eq_true rfl) ⟨⟨rfl, rfl⟩, by decide, by decide⟩ ⟨Nat.le_refl 0, Nat.le_refl 0⟩ [0, 1, 2, 3, 4, 5, 6, 7, 8, 9, 10, 11, 12, 13, 14, 15, 16] [] rfl rfl rfl rfl (by decide) 0 0 ⟨rfl, rfl⟩ 51 rfl (fun v w1 hq48 => ?_)
        obtain ⟨r48, rfl, rfl, h⟩ := hq48
        refine k_perm C [0, 1, 2, 3, 4, 5, 6, 7, 8, 9, 10, 11, 12, 13, 14, 15, 16] [.int (iI r48)] ((wdM cI cJ cZ qh B_h P_h N_h L_h E_h V_h G_h D_h O_h Z_h R_h I_h)) rfl rfl rfl ?_
        obtain ⟨hr51a, h⟩ := h
        obtain ⟨ht, hf⟩ := h
        refine k_if_le C dX7_layLoads_51 hr51a 139 54 (by decide) rfl (fun hc51 => ?_) (fun hc51 => ?_)
        · have h := ht hc51; clear ht hf
          refine k_iinc (j := 2) C dX7_layLoads_139 rfl (by decide) [(2, .int (iI (x2 + 1))), (0, .ref (qh 0)), (1, .int (iI x1))] rfl 142 rfl ?_
          refine k_goto C dX7_layLoads_142 30 (by decide) ?_
          refine k_lv C [1, 2, 0] [(0, .ref (qh 0)), (1, .int (iI x1)), (2, .int (iI (x2 + 1)))] rfl ?_
          exact ih x1 (x2 + 1) L_h h hK_145
        · have h := hf hc51; clear ht hf
          refine k_aload_n C dX7_layLoads_54 0 rfl rfl 55 rfl ?_
          refine k_get C dX7_layLoads_55 0 rfl (ci := 7) rfl hin_X7_layLoads_7 13 (by decide) (List.mem_of_getElem? (i := 1) rfl) rfl 58 rfl ?_
          refine k_iload_n C dX7_layLoads_58 2 rfl rfl 59 rfl ?_
          refine k_laload C dX7_layLoads_59 10 1 rfl rfl (by decide) hi41 60 rfl ?_
          refine k_ldc2 (v := 60466176) C dX7_layLoads_60 (List.mem_of_getElem? (i := 3) rfl) (by decide) 63 rfl ?_
          refine k_aload_n C dX7_layLoads_63 0 rfl rfl 64 rfl ?_
          refine k_get C dX7_layLoads_64 0 rfl (ci := 7) rfl hin_X7_layLoads_7 3 (by decide) (List.mem_of_getElem? (i := 4) rfl) rfl 67 rfl ?_
          refine k_iload_n C dX7_layLoads_67 2 rfl rfl 68 rfl ?_
          refine k_iaload C dX7_layLoads_68 2 0 rfl rfl (by decide) hi41 69 rfl ?_
          obtain ⟨hr69a, h⟩ := h
          refine k_i2l C dX7_layLoads_69 hr69a 70 rfl ?_
          refine k_lmul C dX7_layLoads_70 71 rfl ?_
          refine k_ladd C dX7_layLoads_71 72 rfl ?_
          refine k_aload_n C dX7_layLoads_72 0 rfl rfl 73 rfl ?_
          refine k_iload_n C dX7_layLoads_73 2 rfl rfl 74 rfl ?_
          have hM := c_X7_held (l := l) (D := D) (cI := cI) (cJ := cJ) (cZ := cZ) qh B_h P_h N_h L_h E_h V_h G_h D_h O_h Z_h R_h I_h x2 _ h
          refine k_callV C dX7_layLoads_74 hM gX7_layLoads_X7_held rfl sg_X7_held 7 rfl rfl rfl (Nat.le_of_ble_eq_true rfl) ⟨⟨rfl, rfl⟩, by decide, by decide⟩ ⟨Nat.le_refl 0, Nat.le_refl 0⟩ [0, 1, 2, 3, 4, 5, 6, 7, 8, 9, 10, 11, 12, 13, 14, 15, 16] [] rfl rfl rfl rfl (by decide) 0 0 ⟨rfl, rfl⟩ 77 rfl (fun v w1 hq74 => ?_)
          obtain ⟨r74, rfl, rfl, h⟩ := hq74
          refine k_perm C [0, 1, 2, 3, 4, 5, 6, 7, 8, 9, 10, 11, 12, 13, 14, 15, 16] [.int (iI r74), .long (lL ((L_h x2) + (60466176 * (B_h.2.2.2.1 x2))))] ((wdM cI cJ cZ qh B_h P_h N_h L_h E_h V_h G_h D_h O_h Z_h R_h I_h)) rfl rfl rfl ?_
          obtain ⟨hr77a, h⟩ := h
          refine k_i2l C dX7_layLoads_77 hr77a 78 rfl ?_
          obtain ⟨hz78, h⟩ := h
          obtain ⟨hr78a, hr78b, h⟩ := h
          refine k_ldiv C dX7_layLoads_78 ⟨hr78a, hr78b, hz78⟩ 79 rfl ?_
          refine k_lstore_n C dX7_layLoads_79 rfl (by decide) [(3, .long (lL (((L_h x2) + (60466176 * (B_h.2.2.2.1 x2))).tdiv r74))), (0, .ref (qh 0)), (1, .int (iI x1)), (2, .int (iI x2))] rfl 80 rfl ?_
          refine k_aload_n C dX7_layLoads_80 1 rfl rfl 81 rfl ?_
          refine k_get C dX7_layLoads_81 0 rfl (ci := 7) rfl hin_X7_layLoads_7 12 (by decide) (List.mem_of_getElem? (i := 5) rfl) rfl 84 rfl ?_
          refine k_iload_n C dX7_layLoads_84 3 rfl rfl 85 rfl ?_
          refine k_iaload C dX7_layLoads_85 9 0 rfl rfl (by decide) hi41 86 rfl ?_
          refine k_istore C dX7_layLoads_86 (by decide) [(5, .int (iI (N_h.2 x2))), (3, .long (lL (((L_h x2) + (60466176 * (B_h.2.2.2.1 x2))).tdiv r74))), (0, .ref (qh 0)), (1, .int (iI x1)), (2, .int (iI x2))] rfl 88 rfl ?_
          refine k_lv C [2, 3, 4, 1, 0] [(0, .ref (qh 0)), (1, .int (iI x1)), (2, .int (iI x2)), (3, .long (lL (((L_h x2) + (60466176 * (B_h.2.2.2.1 x2))).tdiv r74))), (5, .int (iI (N_h.2 x2)))] rfl ?_
          obtain ⟨m88, h⟩ := h
          refine w_X7_layLoads_88 C m88 x1 x2 (((L_h x2) + (60466176 * (B_h.2.2.2.1 x2))).tdiv r74) (N_h.2 x2) L_h h (fun x1 x2 L_h h => ?_)
          · refine k_iinc (j := 2) C dX7_layLoads_139 rfl (by decide) [(2, .int (iI (x2 + 1))), (0, .ref (qh 0)), (1, .int (iI x1))] rfl 142 rfl ?_
            refine k_goto C dX7_layLoads_142 30 (by decide) ?_
            refine k_lv C [1, 2, 0] [(0, .ref (qh 0)), (1, .int (iI x1)), (2, .int (iI (x2 + 1)))] rfl ?_
            exact ih x1 (x2 + 1) L_h h hK_145
set_option maxHeartbeats 4000000 in
set_option maxRecDepth 20000 in
theorem w_X7_layLoads_24 {l : Launch} {D : va_G} {cI cJ cZ : ClassId} {A : Nat → Prop} {K : KT} {qh : Nat → Nat} {B_h : gMB} {P_h : gMP} {N_h : gMN} {E_h : gME} {V_h : gMV} {G_h : gMG} {D_h : gMD} {O_h : gMO} {Z_h : gMZ} {R_h : gMR} {I_h : gMI} {Q : gML → Prop} {K_151 : gML → Prop} (C : KC cX7_layLoads yX7_layLoads.cls wsX7_layLoads rm_X7_layLoads 7 D (kT cI cJ cZ) A l false (rp_X7_layLoads cI cJ cZ qh B_h P_h N_h E_h V_h G_h D_h O_h Z_h R_h I_h Q) 0 0 K) : ∀ (n : Nat) (x1 : Int) (L_h : gML), wp_X7_layLoads_24 B_h N_h K_151 Q n x1 L_h → (∀ (L_h : gML), K_151 L_h → K 0 0 151 [] [] ((wdM cI cJ cZ qh B_h P_h N_h L_h E_h V_h G_h D_h O_h Z_h R_h I_h))) → K 0 0 24 [(0, .ref (qh 0)), (1, .int (iI x1))] [] ((wdM cI cJ cZ qh B_h P_h N_h L_h E_h V_h G_h D_h O_h Z_h R_h I_h)) := by
  intro n
  induction n with
  | zero => intro x1 L_h h; exact h.elim
  | succ n ih =>
    intro x1 L_h h hK_151
    refine k_iload_n C dX7_layLoads_24 1 rfl rfl 25 rfl ?_
    obtain ⟨hr25a, h⟩ := h
    obtain ⟨ht, hf⟩ := h
    refine k_if_le C dX7_layLoads_25 hr25a 151 28 (by decide) rfl (fun hc25 => ?_) (fun hc25 => ?_)
    · have h := ht hc25; clear ht hf
      refine k_lv C [] [] rfl ?_
      exact hK_151 L_h h
    · have h := hf hc25; clear ht hf
      refine k_iconst C dX7_layLoads_28 29 rfl ?_
      refine k_istore_n C dX7_layLoads_29 rfl (by decide) [(2, .int (iI 0)), (0, .ref (qh 0)), (1, .int (iI x1))] rfl 30 rfl ?_
      refine k_lv C [1, 2, 0] [(0, .ref (qh 0)), (1, .int (iI x1)), (2, .int (iI 0))] rfl ?_
      obtain ⟨m30, h⟩ := h
      refine w_X7_layLoads_30 C m30 x1 0 L_h h (fun x1 L_h h => ?_)
      · refine k_iinc (j := 1) C dX7_layLoads_145 rfl (by decide) [(1, .int (iI (x1 + (-1)))), (0, .ref (qh 0))] rfl 148 rfl ?_
        refine k_goto C dX7_layLoads_148 24 (by decide) ?_
        refine k_lv C [1, 0] [(0, .ref (qh 0)), (1, .int (iI (x1 + (-1))))] rfl ?_
        exact ih (x1 + (-1)) L_h h hK_151
set_option maxHeartbeats 4000000 in
set_option maxRecDepth 20000 in
theorem c_X7_layLoads {l : Launch} {D : va_G} {cI cJ cZ : ClassId} (qh : Nat → Nat) (B_h : gMB) (P_h : gMP) (N_h : gMN) (L_h : gML) (E_h : gME) (V_h : gMV) (G_h : gMG) (D_h : gMD) (O_h : gMO) (Z_h : gMZ) (R_h : gMR) (I_h : gMI) (Q : gML → Prop) (h : wp_X7_layLoads B_h N_h L_h Q) : KM l D (kT cI cJ cZ) 0 0 yX7_layLoads wsX7_layLoads rm_X7_layLoads [.ref (qh 0)] ((wdM cI cJ cZ qh B_h P_h N_h L_h E_h V_h G_h D_h O_h Z_h R_h I_h)) (rp_X7_layLoads cI cJ cZ qh B_h P_h N_h E_h V_h G_h D_h O_h Z_h R_h I_h Q) := by
  refine KM_intro (lv := [(0, .ref (qh 0))]) false rfl (by decide) (Nat.le_of_ble_eq_true rfl) rfl (fun h => absurd h (by decide)) (fun v ws hq => by obtain ⟨L_h, rfl, rfl, _⟩ := hq; exact Or.inl ⟨rfl, rfl⟩) (fun A K C => ?_)
  refine k_iconst C dX7_layLoads_0 1 rfl ?_
  refine k_istore_n C dX7_layLoads_1 rfl (by decide) [(1, .int (iI 0)), (0, .ref (qh 0))] rfl 2 rfl ?_
  refine k_lv C [1, 0] [(0, .ref (qh 0)), (1, .int (iI 0))] rfl ?_
  obtain ⟨m2, h⟩ := h
  refine w_X7_layLoads_2 C m2 0 L_h h (fun L_h h => ?_)
  · refine k_bipush C dX7_layLoads_21 (by decide) 23 rfl ?_
    refine k_istore_n C dX7_layLoads_23 rfl (by decide) [(1, .int (iI 9)), (0, .ref (qh 0))] rfl 24 rfl ?_
    refine k_lv C [1, 0] [(0, .ref (qh 0)), (1, .int (iI 9))] rfl ?_
    obtain ⟨m24, h⟩ := h
    refine w_X7_layLoads_24 C m24 9 L_h h (fun L_h h => ?_)
    · exact k_vret C dX7_layLoads_151 ⟨L_h, rfl, rfl, h⟩
