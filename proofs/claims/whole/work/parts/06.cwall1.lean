/-! X2_acts -/
abbrev rm_X2_acts : Room := { frames := 0, cells := 0, slots := 0, locals := 0 }
theorem sg_X2_acts : yX2_acts.cls ≠ "java/lang/invoke/MethodHandle" ∧ yX2_acts.cls ≠ "java/lang/invoke/VarHandle" ∧ (parseMethodDescriptor yX2_acts.desc).map (fun d => d.parameters.length) = some 0 := by decide +kernel
theorem hin_X2_acts_2 : ∀ w ∈ wsX20, w ∈ wsX2_acts := fun _ h => List.mem_cons_of_mem _ (List.mem_append_right _ h)
def rp_X2_acts (cI cJ cZ : ClassId) (qh : Nat → Nat) (P_h : gPP) (Q : Int → Prop) : Option Value → va_W → Prop := fun v w1 => ∃ (r : Int), v = some (.int (iI r)) ∧ w1 = (wdP cI cJ cZ qh P_h) ∧ Q r
def wp_X2_acts (P_h : gPP) (Q : Int → Prop) : Prop :=
    rI P_h.1 ∧ Q (P_h.1.tdiv 2)

set_option maxHeartbeats 4000000 in
set_option maxRecDepth 20000 in
theorem c_X2_acts {l : Launch} {D : va_G} {cI cJ cZ : ClassId} (qh : Nat → Nat) (P_h : gPP) (Q : Int → Prop) (h : wp_X2_acts P_h Q) : KM l D (kT cI cJ cZ) 0 0 yX2_acts wsX2_acts rm_X2_acts [.ref (qh 0)] ((wdP cI cJ cZ qh P_h)) (rp_X2_acts cI cJ cZ qh P_h Q) := by
  refine KM_intro (lv := [(0, .ref (qh 0))]) false rfl (by decide) (Nat.le_of_ble_eq_true rfl) rfl (fun h => absurd h (by decide)) (fun v ws hq => by obtain ⟨r, rfl, rfl, _⟩ := hq; exact Or.inr (Or.inl ⟨rfl, _, rfl⟩)) (fun A K C => ?_)
  refine k_aload_n C dX2_acts_0 0 rfl rfl 1 rfl ?_
  refine k_get C dX2_acts_1 0 rfl (ci := 2) rfl hin_X2_acts_2 0 (by decide) (List.mem_of_getElem? (i := 1) rfl) rfl 4 rfl ?_
  refine k_iconst C dX2_acts_4 5 rfl ?_
  obtain ⟨hr5a, h⟩ := h
  refine k_idiv C dX2_acts_5 ⟨hr5a, (by decide), (by decide)⟩ 6 rfl ?_
  exact k_iret C dX2_acts_6 ⟨P_h.1.tdiv 2, rfl, rfl, h⟩

/-! X6_at -/
abbrev rm_X6_at : Room := { frames := 0, cells := 0, slots := 0, locals := 0 }
theorem sg_X6_at : yX6_at.cls ≠ "java/lang/invoke/MethodHandle" ∧ yX6_at.cls ≠ "java/lang/invoke/VarHandle" ∧ (parseMethodDescriptor yX6_at.desc).map (fun d => d.parameters.length) = some 2 := by decide +kernel
def rp_X6_at (cI cJ cZ : ClassId) (qa0 : Nat) (N_a0 : Nat) (f_a0 : (Int → Int)) (Q : Int → Prop) : Option Value → va_W → Prop := fun v w1 => ∃ (r : Int), v = some (.int (iI r)) ∧ w1 = [(qa0, .inl (cI, N_a0, .inl (mI f_a0)))] ∧ Q r
def wp_X6_at (n_a0 : Int) (f_a0 : (Int → Int)) (x1 : Int) (Q : Int → Prop) : Prop :=
    rI x1 ∧ ((x1 < 0 → Q 0) ∧ (¬ (x1 < 0) → ((n_a0 ≤ x1 → Q 0) ∧ (¬ (n_a0 ≤ x1) → (0 ≤ x1 ∧ x1 < n_a0) ∧ Q (f_a0 x1)))))

set_option maxHeartbeats 4000000 in
set_option maxRecDepth 20000 in
theorem c_X6_at {l : Launch} {D : va_G} {cI cJ cZ : ClassId} (qa0 : Nat) (N_a0 : Nat) (hN_a0 : N_a0 ≤ 2147483647) (f_a0 : (Int → Int)) (x1 : Int) (Q : Int → Prop) (h : wp_X6_at (N_a0 : Int) f_a0 x1 Q) : KM l D (kT cI cJ cZ) 0 0 yX6_at wsX6_at rm_X6_at [.ref qa0, .int (iI x1)] ([(qa0, .inl (cI, N_a0, .inl (mI f_a0)))]) (rp_X6_at cI cJ cZ qa0 N_a0 f_a0 Q) := by
  refine KM_intro (lv := [(0, .ref qa0), (1, .int (iI x1))]) false rfl (by decide) (Nat.le_of_ble_eq_true rfl) rfl (fun h => absurd h (by decide)) (fun v ws hq => by obtain ⟨r, rfl, rfl, _⟩ := hq; exact Or.inr (Or.inl ⟨rfl, _, rfl⟩)) (fun A K C => ?_)
  refine k_aload_n C dX6_at_0 0 rfl rfl 1 rfl ?_
  refine k_ifnull C dX6_at_1 4 rfl ?_
  refine k_iload_n C dX6_at_4 1 rfl rfl 5 rfl ?_
  obtain ⟨hr5a, h⟩ := h
  obtain ⟨ht, hf⟩ := h
  refine k_if_lt C dX6_at_5 hr5a 20 8 (by decide) rfl (fun hc5 => ?_) (fun hc5 => ?_)
  · have h := ht hc5; clear ht hf
    refine k_iconst C dX6_at_20 21 rfl ?_
    exact k_iret C dX6_at_21 ⟨0, rfl, rfl, h⟩
  · have h := hf hc5; clear ht hf
    refine k_iload_n C dX6_at_8 1 rfl rfl 9 rfl ?_
    refine k_aload_n C dX6_at_9 0 rfl rfl 10 rfl ?_
    refine k_alen C dX6_at_10 0 0 rfl rfl 11 rfl ?_
    obtain ⟨ht, hf⟩ := h
    refine k_icmp_ge C dX6_at_11 ⟨hr5a, ⟨by omega, by omega⟩⟩ 20 14 (by decide) rfl (fun hc11 => ?_) (fun hc11 => ?_)
    · have h := ht hc11; clear ht hf
      refine k_iconst C dX6_at_20 21 rfl ?_
      exact k_iret C dX6_at_21 ⟨0, rfl, rfl, h⟩
    · have h := hf hc11; clear ht hf
      refine k_aload_n C dX6_at_14 0 rfl rfl 15 rfl ?_
      refine k_iload_n C dX6_at_15 1 rfl rfl 16 rfl ?_
      obtain ⟨hi16, h⟩ := h
      refine k_iaload C dX6_at_16 0 0 rfl rfl hN_a0 hi16 17 rfl ?_
      refine k_goto C dX6_at_17 21 (by decide) ?_
      exact k_iret C dX6_at_21 ⟨f_a0 x1, rfl, rfl, h⟩

/-! X2_columnOf -/
abbrev rm_X2_columnOf : Room := { frames := 1, cells := 0, slots := 0, locals := 21 }
theorem sg_X2_columnOf : yX2_columnOf.cls ≠ "java/lang/invoke/MethodHandle" ∧ yX2_columnOf.cls ≠ "java/lang/invoke/VarHandle" ∧ (parseMethodDescriptor yX2_columnOf.desc).map (fun d => d.parameters.length) = some 1 := by decide +kernel
theorem hin_X2_columnOf_2 : ∀ w ∈ wsX20, w ∈ wsX2_columnOf := fun _ h => List.mem_cons_of_mem _ (List.mem_append_right _ h)
def rp_X2_columnOf (cI cJ cZ : ClassId) (qh : Nat → Nat) (P_h : gPP) (Q : Int → Prop) : Option Value → va_W → Prop := fun v w1 => ∃ (r : Int), v = some (.int (iI r)) ∧ w1 = (wdP cI cJ cZ qh P_h) ∧ Q r
def wp_X2_columnOf (P_h : gPP) (x1 : Int) (Q : Int → Prop) : Prop :=
    wp_X6_at 60 P_h.2 ((2 * x1) + 1) (fun (r9 : Int) => rI r9 ∧ ((¬ r9 = 45 → Q (r9 - 48)) ∧ (¬ (¬ r9 = 45) → Q (-1))))

set_option maxHeartbeats 4000000 in
set_option maxRecDepth 20000 in
theorem c_X2_columnOf {l : Launch} {D : va_G} {cI cJ cZ : ClassId} (qh : Nat → Nat) (P_h : gPP) (x1 : Int) (Q : Int → Prop) (h : wp_X2_columnOf P_h x1 Q) : KM l D (kT cI cJ cZ) 0 0 yX2_columnOf wsX2_columnOf rm_X2_columnOf [.ref (qh 0), .int (iI x1)] ((wdP cI cJ cZ qh P_h)) (rp_X2_columnOf cI cJ cZ qh P_h Q) := by
  refine KM_intro (lv := [(0, .ref (qh 0)), (1, .int (iI x1))]) false rfl (by decide) (Nat.le_of_ble_eq_true rfl) rfl (fun h => absurd h (by decide)) (fun v ws hq => by obtain ⟨r, rfl, rfl, _⟩ := hq; exact Or.inr (Or.inl ⟨rfl, _, rfl⟩)) (fun A K C => ?_)
  refine k_aload_n C dX2_columnOf_0 0 rfl rfl 1 rfl ?_
  refine k_get C dX2_columnOf_1 0 rfl (ci := 2) rfl hin_X2_columnOf_2 1 (by decide) (List.mem_of_getElem? (i := 1) rfl) rfl 4 rfl ?_
  refine k_iconst C dX2_columnOf_4 5 rfl ?_
  refine k_iload_n C dX2_columnOf_5 1 rfl rfl 6 rfl ?_
  refine k_imul C dX2_columnOf_6 7 rfl ?_
  refine k_iconst C dX2_columnOf_7 8 rfl ?_
  refine k_iadd C dX2_columnOf_8 9 rfl ?_
  have hM := c_X6_at (l := l) (D := D) (cI := cI) (cJ := cJ) (cZ := cZ) (qh 1) 60 (by decide) P_h.2 ((2 * x1) + 1) _ h
  refine k_callNS C dX2_columnOf_9 hM gX2_columnOf_X6_at_n23 (List.mem_of_getElem? (i := 35) rfl) (List.mem_of_getElem? (i := 3) rfl) rfl sg_X6_at (List.mem_of_getElem? (i := 2) rfl) rfl (Nat.le_of_ble_eq_true rfl) ⟨⟨rfl, rfl⟩, by decide, by decide⟩ ⟨Nat.le_refl 0, Nat.le_refl 0⟩ [1] [0] rfl rfl rfl rfl (by decide) 0 0 ⟨rfl, rfl⟩ 12 rfl (fun v w1 hq9 => ?_)
  obtain ⟨r9, rfl, rfl, h⟩ := hq9
  refine k_perm C [0, 1] [.int (iI r9)] ((wdP cI cJ cZ qh P_h)) rfl rfl rfl ?_
  refine k_istore_n C dX2_columnOf_12 rfl (by decide) [(2, .int (iI r9)), (0, .ref (qh 0)), (1, .int (iI x1))] rfl 13 rfl ?_
  refine k_iload_n C dX2_columnOf_13 0 rfl rfl 14 rfl ?_
  refine k_bipush C dX2_columnOf_14 (by decide) 16 rfl ?_
  obtain ⟨hr16a, h⟩ := h
  obtain ⟨ht, hf⟩ := h
  refine k_icmp_ne C dX2_columnOf_16 ⟨hr16a, (by decide)⟩ 23 19 (by decide) rfl (fun hc16 => ?_) (fun hc16 => ?_)
  · have h := ht hc16; clear ht hf
    refine k_iload_n C dX2_columnOf_23 0 rfl rfl 24 rfl ?_
    refine k_bipush C dX2_columnOf_24 (by decide) 26 rfl ?_
    refine k_isub C dX2_columnOf_26 27 rfl ?_
    exact k_iret C dX2_columnOf_27 ⟨r9 - 48, rfl, rfl, h⟩
  · have h := hf hc16; clear ht hf
    refine k_iconst C dX2_columnOf_19 20 rfl ?_
    refine k_goto C dX2_columnOf_20 27 (by decide) ?_
    exact k_iret C dX2_columnOf_27 ⟨(-1), rfl, rfl, h⟩

/-! X2_guestOf -/
abbrev rm_X2_guestOf : Room := { frames := 1, cells := 0, slots := 0, locals := 21 }
theorem sg_X2_guestOf : yX2_guestOf.cls ≠ "java/lang/invoke/MethodHandle" ∧ yX2_guestOf.cls ≠ "java/lang/invoke/VarHandle" ∧ (parseMethodDescriptor yX2_guestOf.desc).map (fun d => d.parameters.length) = some 1 := by decide +kernel
theorem hin_X2_guestOf_2 : ∀ w ∈ wsX20, w ∈ wsX2_guestOf := fun _ h => List.mem_cons_of_mem _ (List.mem_append_right _ h)
def rp_X2_guestOf (cI cJ cZ : ClassId) (qh : Nat → Nat) (P_h : gPP) (Q : Int → Prop) : Option Value → va_W → Prop := fun v w1 => ∃ (r : Int), v = some (.int (iI r)) ∧ w1 = (wdP cI cJ cZ qh P_h) ∧ Q r
def wp_X2_guestOf (P_h : gPP) (x1 : Int) (Q : Int → Prop) : Prop :=
    wp_X6_at 60 P_h.2 (2 * x1) (fun (r7 : Int) => Q (r7 - 65))

set_option maxHeartbeats 4000000 in
set_option maxRecDepth 20000 in
theorem c_X2_guestOf {l : Launch} {D : va_G} {cI cJ cZ : ClassId} (qh : Nat → Nat) (P_h : gPP) (x1 : Int) (Q : Int → Prop) (h : wp_X2_guestOf P_h x1 Q) : KM l D (kT cI cJ cZ) 0 0 yX2_guestOf wsX2_guestOf rm_X2_guestOf [.ref (qh 0), .int (iI x1)] ((wdP cI cJ cZ qh P_h)) (rp_X2_guestOf cI cJ cZ qh P_h Q) := by
  refine KM_intro (lv := [(0, .ref (qh 0)), (1, .int (iI x1))]) false rfl (by decide) (Nat.le_of_ble_eq_true rfl) rfl (fun h => absurd h (by decide)) (fun v ws hq => by obtain ⟨r, rfl, rfl, _⟩ := hq; exact Or.inr (Or.inl ⟨rfl, _, rfl⟩)) (fun A K C => ?_)
  refine k_aload_n C dX2_guestOf_0 0 rfl rfl 1 rfl ?_
  refine k_get C dX2_guestOf_1 0 rfl (ci := 2) rfl hin_X2_guestOf_2 1 (by decide) (List.mem_of_getElem? (i := 1) rfl) rfl 4 rfl ?_
  refine k_iconst C dX2_guestOf_4 5 rfl ?_
  refine k_iload_n C dX2_guestOf_5 1 rfl rfl 6 rfl ?_
  refine k_imul C dX2_guestOf_6 7 rfl ?_
  have hM := c_X6_at (l := l) (D := D) (cI := cI) (cJ := cJ) (cZ := cZ) (qh 1) 60 (by decide) P_h.2 (2 * x1) _ h
  refine k_callNS C dX2_guestOf_7 hM gX2_guestOf_X6_at_n23 (List.mem_of_getElem? (i := 35) rfl) (List.mem_of_getElem? (i := 3) rfl) rfl sg_X6_at (List.mem_of_getElem? (i := 2) rfl) rfl (Nat.le_of_ble_eq_true rfl) ⟨⟨rfl, rfl⟩, by decide, by decide⟩ ⟨Nat.le_refl 0, Nat.le_refl 0⟩ [1] [0] rfl rfl rfl rfl (by decide) 0 0 ⟨rfl, rfl⟩ 10 rfl (fun v w1 hq7 => ?_)
  obtain ⟨r7, rfl, rfl, h⟩ := hq7
  refine k_perm C [0, 1] [.int (iI r7)] ((wdP cI cJ cZ qh P_h)) rfl rfl rfl ?_
  refine k_bipush C dX2_guestOf_10 (by decide) 12 rfl ?_
  refine k_isub C dX2_guestOf_12 13 rfl ?_
  exact k_iret C dX2_guestOf_13 ⟨r7 - 65, rfl, rfl, h⟩

/-! X6_set -/
abbrev rm_X6_set : Room := { frames := 0, cells := 0, slots := 0, locals := 0 }
theorem sg_X6_set : yX6_set.cls ≠ "java/lang/invoke/MethodHandle" ∧ yX6_set.cls ≠ "java/lang/invoke/VarHandle" ∧ (parseMethodDescriptor yX6_set.desc).map (fun d => d.parameters.length) = some 3 := by decide +kernel
def rp_X6_set (cI cJ cZ : ClassId) (qa0 : Nat) (N_a0 : Nat) (Q : (Int → Int) → Prop) : Option Value → va_W → Prop := fun v w1 => ∃ (f_a0 : (Int → Int)), v = none ∧ w1 = [(qa0, .inl (cI, N_a0, .inl (mI f_a0)))] ∧ Q f_a0
def wp_X6_set (n_a0 : Int) (f_a0 : (Int → Int)) (x1 : Int) (x2 : Int) (Q : (Int → Int) → Prop) : Prop :=
    rI x1 ∧ ((x1 < 0 → Q f_a0) ∧ (¬ (x1 < 0) → ((n_a0 ≤ x1 → Q f_a0) ∧ (¬ (n_a0 ≤ x1) → (0 ≤ x1 ∧ x1 < n_a0) ∧ Q (aset f_a0 x1 x2)))))

set_option maxHeartbeats 4000000 in
set_option maxRecDepth 20000 in
theorem c_X6_set {l : Launch} {D : va_G} {cI cJ cZ : ClassId} (qa0 : Nat) (N_a0 : Nat) (hN_a0 : N_a0 ≤ 2147483647) (f_a0 : (Int → Int)) (x1 : Int) (x2 : Int) (Q : (Int → Int) → Prop) (h : wp_X6_set (N_a0 : Int) f_a0 x1 x2 Q) : KM l D (kT cI cJ cZ) 0 0 yX6_set wsX6_set rm_X6_set [.ref qa0, .int (iI x1), .int (iI x2)] ([(qa0, .inl (cI, N_a0, .inl (mI f_a0)))]) (rp_X6_set cI cJ cZ qa0 N_a0 Q) := by
  refine KM_intro (lv := [(0, .ref qa0), (1, .int (iI x1)), (2, .int (iI x2))]) false rfl (by decide) (Nat.le_of_ble_eq_true rfl) rfl (fun h => absurd h (by decide)) (fun v ws hq => by obtain ⟨f_a0, rfl, rfl, _⟩ := hq; exact Or.inl ⟨rfl, rfl⟩) (fun A K C => ?_)
  refine k_aload_n C dX6_set_0 0 rfl rfl 1 rfl ?_
  refine k_ifnull C dX6_set_1 4 rfl ?_
  refine k_iload_n C dX6_set_4 1 rfl rfl 5 rfl ?_
  obtain ⟨hr5a, h⟩ := h
  obtain ⟨ht, hf⟩ := h
  refine k_if_lt C dX6_set_5 hr5a 18 8 (by decide) rfl (fun hc5 => ?_) (fun hc5 => ?_)
  · have h := ht hc5; clear ht hf
    exact k_vret C dX6_set_18 ⟨f_a0, rfl, rfl, h⟩
  · have h := hf hc5; clear ht hf
    refine k_iload_n C dX6_set_8 1 rfl rfl 9 rfl ?_
    refine k_aload_n C dX6_set_9 0 rfl rfl 10 rfl ?_
    refine k_alen C dX6_set_10 0 0 rfl rfl 11 rfl ?_
    obtain ⟨ht, hf⟩ := h
    refine k_icmp_ge C dX6_set_11 ⟨hr5a, ⟨by omega, by omega⟩⟩ 18 14 (by decide) rfl (fun hc11 => ?_) (fun hc11 => ?_)
    · have h := ht hc11; clear ht hf
      exact k_vret C dX6_set_18 ⟨f_a0, rfl, rfl, h⟩
    · have h := hf hc11; clear ht hf
      refine k_aload_n C dX6_set_14 0 rfl rfl 15 rfl ?_
      refine k_iload_n C dX6_set_15 1 rfl rfl 16 rfl ?_
      refine k_iload_n C dX6_set_16 2 rfl rfl 17 rfl ?_
      obtain ⟨hi17, h⟩ := h
      refine k_iastore C dX6_set_17 0 0 rfl rfl hN_a0 hi17 ([(qa0, .inl (cI, N_a0, .inl (mI (aset f_a0 x1 x2))))]) rfl 18 rfl ?_
      exact k_vret C dX6_set_18 ⟨(aset f_a0 x1 x2), rfl, rfl, h⟩

/-! X1_start -/
abbrev rm_X1_start : Room := { frames := 2, cells := 0, slots := 0, locals := 43 }
theorem sg_X1_start : yX1_start.cls ≠ "java/lang/invoke/MethodHandle" ∧ yX1_start.cls ≠ "java/lang/invoke/VarHandle" ∧ (parseMethodDescriptor yX1_start.desc).map (fun d => d.parameters.length) = some 1 := by decide +kernel
theorem hin_X1_start_1 : ∀ w ∈ wsX10, w ∈ wsX1_start := fun _ h => List.mem_cons_of_mem _ (List.mem_append_left _ (List.mem_append_right _ h))
def rp_X1_start (cI cJ cZ : ClassId) (qh : Nat → Nat) (qa0 : Nat → Nat) (P_a0 : gPP) (Q : gOOC → gOO → Prop) : Option Value → va_W → Prop := fun v w1 => ∃ (OC_h : gOOC) (O_h : gOO), v = none ∧ w1 = (wdO cI cJ cZ qh OC_h O_h) ++ (wdP cI cJ cZ qa0 P_a0) ∧ Q OC_h O_h
def wp_X1_start_17 (P_a0 : gPP) (K_45 : gOOC → gOO → Prop)  (Q : gOOC → gOO → Prop) : Nat → Int → Int → gOOC → gOO → Prop
  | 0, _, _, _, _ => False
  | n17 + 1, x2, x3, OC_h, O_h =>
    rI x3 ∧ rI x2 ∧ ((x2 ≤ x3 → K_45 OC_h O_h) ∧ (¬ (x2 ≤ x3) → wp_X2_guestOf P_a0 x3 (fun (r28 : Int) => wp_X2_columnOf P_a0 x3 (fun (r33 : Int) => wp_X6_set 10 OC_h r28 r33 (fun (f_a0_36 : Int → Int) => wp_X1_start_17 P_a0 K_45 Q n17 x2 (x3 + 1) f_a0_36 O_h)))))
def wp_X1_start (OC_h : gOOC) (O_h : gOO) (P_a0 : gPP) (Q : gOOC → gOO → Prop) : Prop :=
    wp_X2_acts P_a0 (fun (r11 : Int) => ∃ m17, wp_X1_start_17 P_a0 (fun (OC_h : gOOC) (O_h : gOO) => Q OC_h O_h) Q m17 r11 0 OC_h (0, O_h.2.1, O_h.2.2))
set_option maxHeartbeats 4000000 in
set_option maxRecDepth 20000 in
theorem w_X1_start_17 {l : Launch} {D : va_G} {cI cJ cZ : ClassId} {A : Nat → Prop} {K : KT} {qh : Nat → Nat} {qa0 : Nat → Nat} {P_a0 : gPP} {Q : gOOC → gOO → Prop} {K_45 : gOOC → gOO → Prop} (C : KC cX1_start yX1_start.cls wsX1_start rm_X1_start 4 D (kT cI cJ cZ) A l false (rp_X1_start cI cJ cZ qh qa0 P_a0 Q) 0 0 K) : ∀ (n : Nat) (x2 : Int) (x3 : Int) (OC_h : gOOC) (O_h : gOO), wp_X1_start_17 P_a0 K_45 Q n x2 x3 OC_h O_h → (∀ (OC_h : gOOC) (O_h : gOO), K_45 OC_h O_h → K 0 0 45 [] [] ((wdO cI cJ cZ qh OC_h O_h) ++ (wdP cI cJ cZ qa0 P_a0))) → K 0 0 17 [(0, .ref (qh 0)), (1, .ref (qa0 0)), (2, .int (iI x2)), (3, .int (iI x3))] [] ((wdO cI cJ cZ qh OC_h O_h) ++ (wdP cI cJ cZ qa0 P_a0)) := by
  intro n
  induction n with
  | zero => intro x2 x3 OC_h O_h h; exact h.elim
  | succ n ih =>
    intro x2 x3 OC_h O_h h hK_45
    refine k_iload_n C dX1_start_17 3 rfl rfl 18 rfl ?_
    refine k_iload_n C dX1_start_18 2 rfl rfl 19 rfl ?_
    obtain ⟨hr19a, hr19b, h⟩ := h
    obtain ⟨ht, hf⟩ := h
    refine k_icmp_ge C dX1_start_19 ⟨hr19a, hr19b⟩ 45 22 (by decide) rfl (fun hc19 => ?_) (fun hc19 => ?_)
    · have h := ht hc19; clear ht hf
      refine k_lv C [] [] rfl ?_
      exact hK_45 OC_h O_h h
    · have h := hf hc19; clear ht hf
      refine k_aload_n C dX1_start_22 0 rfl rfl 23 rfl ?_
      refine k_get C dX1_start_23 0 rfl (ci := 1) rfl hin_X1_start_1 1 (by decide) (List.mem_of_getElem? (i := 2) rfl) rfl 26 rfl ?_
      refine k_aload_n C dX1_start_26 1 rfl rfl 27 rfl ?_
      refine k_iload_n C dX1_start_27 3 rfl rfl 28 rfl ?_
      have hM := c_X2_guestOf (l := l) (D := D) (cI := cI) (cJ := cJ) (cZ := cZ) qa0 P_a0 x3 _ h
      refine k_callV C dX1_start_28 hM gX1_start_X2_guestOf rfl sg_X2_guestOf 2 rfl rfl rfl (Nat.le_of_ble_eq_true rfl) ⟨⟨rfl, rfl⟩, by decide, by decide⟩ ⟨Nat.le_refl 0, Nat.le_refl 0⟩ [4, 5] [0, 1, 2, 3] rfl rfl rfl rfl (by decide) 0 0 ⟨rfl, rfl⟩ 31 rfl (fun v w1 hq28 => ?_)
      obtain ⟨r28, rfl, rfl, h⟩ := hq28
      refine k_perm C [0, 1, 2, 3, 4, 5] [.int (iI r28), .ref (qh 1)] ((wdO cI cJ cZ qh OC_h O_h) ++ (wdP cI cJ cZ qa0 P_a0)) rfl rfl rfl ?_
      refine k_aload_n C dX1_start_31 1 rfl rfl 32 rfl ?_
      refine k_iload_n C dX1_start_32 3 rfl rfl 33 rfl ?_
      have hM := c_X2_columnOf (l := l) (D := D) (cI := cI) (cJ := cJ) (cZ := cZ) qa0 P_a0 x3 _ h
      refine k_callV C dX1_start_33 hM gX1_start_X2_columnOf rfl sg_X2_columnOf 2 rfl rfl rfl (Nat.le_of_ble_eq_true rfl) ⟨⟨rfl, rfl⟩, by decide, by decide⟩ ⟨Nat.le_refl 0, Nat.le_refl 0⟩ [4, 5] [0, 1, 2, 3] rfl rfl rfl rfl (by decide) 0 0 ⟨rfl, rfl⟩ 36 rfl (fun v w1 hq33 => ?_)
      obtain ⟨r33, rfl, rfl, h⟩ := hq33
      refine k_perm C [0, 1, 2, 3, 4, 5] [.int (iI r33), .int (iI r28), .ref (qh 1)] ((wdO cI cJ cZ qh OC_h O_h) ++ (wdP cI cJ cZ qa0 P_a0)) rfl rfl rfl ?_
      have hM := c_X6_set (l := l) (D := D) (cI := cI) (cJ := cJ) (cZ := cZ) (qh 1) 10 (by decide) OC_h r28 r33 _ h
      refine k_callNS C dX1_start_36 hM gX1_start_X6_set_n38 (List.mem_of_getElem? (i := 41) rfl) (List.mem_of_getElem? (i := 15) rfl) rfl sg_X6_set (List.mem_of_getElem? (i := 21) rfl) rfl (Nat.le_of_ble_eq_true rfl) ⟨⟨rfl, rfl⟩, by decide, by decide⟩ ⟨Nat.le_refl 0, Nat.le_refl 0⟩ [1] [0, 2, 3, 4, 5] rfl rfl rfl rfl (by decide) 0 0 ⟨rfl, rfl⟩ 39 rfl (fun v w1 hq36 => ?_)
      obtain ⟨f_a0_36, rfl, rfl, h⟩ := hq36
      refine k_perm C [0, 5, 1, 2, 3, 4] [] ((wdO cI cJ cZ qh f_a0_36 O_h) ++ (wdP cI cJ cZ qa0 P_a0)) rfl rfl rfl ?_
      refine k_iinc (j := 3) C dX1_start_39 rfl (by decide) [(3, .int (iI (x3 + 1))), (0, .ref (qh 0)), (1, .ref (qa0 0)), (2, .int (iI x2))] rfl 42 rfl ?_
      refine k_goto C dX1_start_42 17 (by decide) ?_
      refine k_lv C [1, 2, 3, 0] [(0, .ref (qh 0)), (1, .ref (qa0 0)), (2, .int (iI x2)), (3, .int (iI (x3 + 1)))] rfl ?_
      exact ih x2 (x3 + 1) f_a0_36 O_h h hK_45
set_option maxHeartbeats 4000000 in
set_option maxRecDepth 20000 in
theorem c_X1_start {l : Launch} {D : va_G} {cI cJ cZ : ClassId} (qh : Nat → Nat) (qa0 : Nat → Nat) (OC_h : gOOC) (O_h : gOO) (P_a0 : gPP) (Q : gOOC → gOO → Prop) (h : wp_X1_start OC_h O_h P_a0 Q) : KM l D (kT cI cJ cZ) 0 0 yX1_start wsX1_start rm_X1_start [.ref (qh 0), .ref (qa0 0)] ((wdO cI cJ cZ qh OC_h O_h) ++ (wdP cI cJ cZ qa0 P_a0)) (rp_X1_start cI cJ cZ qh qa0 P_a0 Q) := by
  refine KM_intro (lv := [(0, .ref (qh 0)), (1, .ref (qa0 0))]) false rfl (by decide) (Nat.le_of_ble_eq_true rfl) rfl (fun h => absurd h (by decide)) (fun v ws hq => by obtain ⟨OC_h, O_h, rfl, rfl, _⟩ := hq; exact Or.inl ⟨rfl, rfl⟩) (fun A K C => ?_)
  refine k_aload_n C dX1_start_0 0 rfl rfl 1 rfl ?_
  refine k_iconst C dX1_start_1 2 rfl ?_
  refine k_put C dX1_start_2 0 rfl (ci := 1) rfl hin_X1_start_1 tyX1_ok nmX1 0 (by decide) (List.mem_of_getElem? (i := 1) rfl) rfl rfl rfl (Nat.le_of_ble_eq_true rfl) ((wdO cI cJ cZ qh OC_h (0, O_h.2.1, O_h.2.2)) ++ (wdP cI cJ cZ qa0 P_a0)) rfl 5 rfl ?_
  refine k_aload_n C dX1_start_5 1 rfl rfl 6 rfl ?_
  refine k_ifnonnull C dX1_start_6 10 (by decide) ?_
  refine k_aload_n C dX1_start_10 1 rfl rfl 11 rfl ?_
  have hM := c_X2_acts (l := l) (D := D) (cI := cI) (cJ := cJ) (cZ := cZ) qa0 P_a0 _ h
  refine k_callV C dX1_start_11 hM gX1_start_X2_acts rfl sg_X2_acts 2 rfl rfl rfl (Nat.le_of_ble_eq_true rfl) ⟨⟨rfl, rfl⟩, by decide, by decide⟩ ⟨Nat.le_refl 0, Nat.le_refl 0⟩ [4, 5] [0, 1, 2, 3] rfl rfl rfl rfl (by decide) 0 0 ⟨rfl, rfl⟩ 14 rfl (fun v w1 hq11 => ?_)
  obtain ⟨r11, rfl, rfl, h⟩ := hq11
  refine k_perm C [0, 1, 2, 3, 4, 5] [.int (iI r11)] ((wdO cI cJ cZ qh OC_h (0, O_h.2.1, O_h.2.2)) ++ (wdP cI cJ cZ qa0 P_a0)) rfl rfl rfl ?_
  refine k_istore_n C dX1_start_14 rfl (by decide) [(2, .int (iI r11)), (0, .ref (qh 0)), (1, .ref (qa0 0))] rfl 15 rfl ?_
  refine k_iconst C dX1_start_15 16 rfl ?_
  refine k_istore_n C dX1_start_16 rfl (by decide) [(3, .int (iI 0)), (2, .int (iI r11)), (0, .ref (qh 0)), (1, .ref (qa0 0))] rfl 17 rfl ?_
  refine k_lv C [2, 3, 1, 0] [(0, .ref (qh 0)), (1, .ref (qa0 0)), (2, .int (iI r11)), (3, .int (iI 0))] rfl ?_
  obtain ⟨m17, h⟩ := h
  refine w_X1_start_17 C m17 r11 0 OC_h (0, O_h.2.1, O_h.2.2) h (fun OC_h O_h h => ?_)
  · exact k_vret C dX1_start_45 ⟨OC_h, O_h, rfl, rfl, h⟩

/-! X6_copy -/
abbrev rm_X6_copy : Room := { frames := 1, cells := 0, slots := 0, locals := 64 }
theorem sg_X6_copy : yX6_copy.cls ≠ "java/lang/invoke/MethodHandle" ∧ yX6_copy.cls ≠ "java/lang/invoke/VarHandle" ∧ (parseMethodDescriptor yX6_copy.desc).map (fun d => d.parameters.length) = some 2 := by decide +kernel
def rp_X6_copy (cI cJ cZ : ClassId) (qa0 : Nat) (qa1 : Nat) (N_a0 : Nat) (N_a1 : Nat) (f_a0 : (Int → Int)) (Q : (Int → Int) → Prop) : Option Value → va_W → Prop := fun v w1 => ∃ (f_a1 : (Int → Int)), v = none ∧ w1 = [(qa0, .inl (cI, N_a0, .inl (mI f_a0)))] ++ [(qa1, .inl (cI, N_a1, .inl (mI f_a1)))] ∧ Q f_a1
def wp_X6_copy (n_a0 : Int) (n_a1 : Int) (f_a0 : (Int → Int)) (f_a1 : (Int → Int)) (Q : (Int → Int) → Prop) : Prop :=
    (0 ≤ (min n_a0 n_a1) ∧ (min n_a0 n_a1) ≤ n_a0 ∧ (min n_a0 n_a1) ≤ n_a1) ∧ Q (acpy f_a0 f_a1 (min n_a0 n_a1))

set_option maxHeartbeats 4000000 in
set_option maxRecDepth 20000 in
theorem c_X6_copy {l : Launch} {D : va_G} {cI cJ cZ : ClassId} (qa0 : Nat) (qa1 : Nat) (N_a0 : Nat) (hN_a0 : N_a0 ≤ 2147483647) (N_a1 : Nat) (hN_a1 : N_a1 ≤ 2147483647) (f_a0 : (Int → Int)) (f_a1 : (Int → Int)) (Q : (Int → Int) → Prop) (h : wp_X6_copy (N_a0 : Int) (N_a1 : Int) f_a0 f_a1 Q) : KM l D (kT cI cJ cZ) 0 0 yX6_copy wsX6_copy rm_X6_copy [.ref qa0, .ref qa1] ([(qa0, .inl (cI, N_a0, .inl (mI f_a0)))] ++ [(qa1, .inl (cI, N_a1, .inl (mI f_a1)))]) (rp_X6_copy cI cJ cZ qa0 qa1 N_a0 N_a1 f_a0 Q) := by
  refine KM_intro (lv := [(0, .ref qa0), (1, .ref qa1)]) false rfl (by decide) (Nat.le_of_ble_eq_true rfl) rfl (fun h => absurd h (by decide)) (fun v ws hq => by obtain ⟨f_a1, rfl, rfl, _⟩ := hq; exact Or.inl ⟨rfl, rfl⟩) (fun A K C => ?_)
  refine k_aload_n C dX6_copy_0 0 rfl rfl 1 rfl ?_
  refine k_ifnull C dX6_copy_1 4 rfl ?_
  refine k_aload_n C dX6_copy_4 1 rfl rfl 5 rfl ?_
  refine k_ifnull C dX6_copy_5 8 rfl ?_
  refine k_aload_n C dX6_copy_8 0 rfl rfl 9 rfl ?_
  refine k_iconst C dX6_copy_9 10 rfl ?_
  refine k_aload_n C dX6_copy_10 1 rfl rfl 11 rfl ?_
  refine k_iconst C dX6_copy_11 12 rfl ?_
  refine k_aload_n C dX6_copy_12 0 rfl rfl 13 rfl ?_
  refine k_alen C dX6_copy_13 0 0 rfl rfl 14 rfl ?_
  refine k_aload_n C dX6_copy_14 1 rfl rfl 15 rfl ?_
  refine k_alen C dX6_copy_15 1 0 rfl rfl 16 rfl ?_
  refine k_mmin C dX6_copy_16 (List.mem_of_getElem? (i := 1) rfl) (List.mem_of_getElem? (i := 2) rfl) (List.mem_of_getElem? (i := 3) rfl) (List.mem_of_getElem? (i := 4) rfl) (by decide) (Nat.le_of_ble_eq_true rfl) ⟨Nat.zero_le _, Nat.zero_le _⟩ ⟨⟨by omega, by omega⟩, ⟨by omega, by omega⟩⟩ 19 rfl ?_
  obtain ⟨hx19, h⟩ := h
  refine k_copy C dX6_copy_19 (List.mem_of_getElem? (i := 5) rfl) (List.mem_of_getElem? (i := 6) rfl) (List.mem_of_getElem? (i := 7) rfl) (List.mem_of_getElem? (i := 8) rfl) 0 1 0 rfl rfl rfl hN_a1 hx19 (by decide) (by decide) ([(qa0, .inl (cI, N_a0, .inl (mI f_a0)))] ++ [(qa1, .inl (cI, N_a1, .inl (mI (acpy f_a0 f_a1 (min (N_a0 : Int) (N_a1 : Int))))))]) rfl 22 rfl ?_
  exact k_vret C dX6_copy_22 ⟨(acpy f_a0 f_a1 (min (N_a0 : Int) (N_a1 : Int))), rfl, rfl, h⟩

/-! X1_add -/
abbrev rm_X1_add : Room := { frames := 2, cells := 0, slots := 0, locals := 85 }
theorem sg_X1_add : yX1_add.cls ≠ "java/lang/invoke/MethodHandle" ∧ yX1_add.cls ≠ "java/lang/invoke/VarHandle" ∧ (parseMethodDescriptor yX1_add.desc).map (fun d => d.parameters.length) = some 0 := by decide +kernel
theorem hin_X1_add_1 : ∀ w ∈ wsX10, w ∈ wsX1_add := fun _ h => List.mem_cons_of_mem _ (List.mem_append_right _ h)
def rp_X1_add (cI cJ cZ : ClassId) (qh : Nat → Nat) (OC_h : gOOC) (Q : gOO → Prop) : Option Value → va_W → Prop := fun v w1 => ∃ (O_h : gOO), v = none ∧ w1 = (wdO cI cJ cZ qh OC_h O_h) ∧ Q O_h
def wp_X1_add (O_h : gOO) (Q : gOO → Prop) : Prop :=
    rI O_h.1 ∧ ((¬ O_h.1 = 0 → Q (O_h.1 + 1, O_h.2.1, O_h.2.2)) ∧ (¬ (¬ O_h.1 = 0) → wp_X6_copy 6 6 O_h.2.1 O_h.2.2 (fun (f_a1_15 : Int → Int) => Q (O_h.1 + 1, O_h.2.1, f_a1_15))))

set_option maxHeartbeats 4000000 in
set_option maxRecDepth 20000 in
theorem c_X1_add {l : Launch} {D : va_G} {cI cJ cZ : ClassId} (qh : Nat → Nat) (OC_h : gOOC) (O_h : gOO) (Q : gOO → Prop) (h : wp_X1_add O_h Q) : KM l D (kT cI cJ cZ) 0 0 yX1_add wsX1_add rm_X1_add [.ref (qh 0)] ((wdO cI cJ cZ qh OC_h O_h)) (rp_X1_add cI cJ cZ qh OC_h Q) := by
  refine KM_intro (lv := [(0, .ref (qh 0))]) false rfl (by decide) (Nat.le_of_ble_eq_true rfl) rfl (fun h => absurd h (by decide)) (fun v ws hq => by obtain ⟨O_h, rfl, rfl, _⟩ := hq; exact Or.inl ⟨rfl, rfl⟩) (fun A K C => ?_)
  refine k_aload_n C dX1_add_0 0 rfl rfl 1 rfl ?_
  refine k_get C dX1_add_1 0 rfl (ci := 1) rfl hin_X1_add_1 0 (by decide) (List.mem_of_getElem? (i := 1) rfl) rfl 4 rfl ?_
  obtain ⟨hr4a, h⟩ := h
  obtain ⟨ht, hf⟩ := h
  refine k_if_ne C dX1_add_4 hr4a 18 7 (by decide) rfl (fun hc4 => ?_) (fun hc4 => ?_)
  · have h := ht hc4; clear ht hf
    refine k_aload_n C dX1_add_18 0 rfl rfl 19 rfl ?_
    refine k_dup C dX1_add_19 rfl 20 rfl ?_
    refine k_get C dX1_add_20 0 rfl (ci := 1) rfl hin_X1_add_1 0 (by decide) (List.mem_of_getElem? (i := 1) rfl) rfl 23 rfl ?_
    refine k_iconst C dX1_add_23 24 rfl ?_
    refine k_iadd C dX1_add_24 25 rfl ?_
    refine k_put C dX1_add_25 0 rfl (ci := 1) rfl hin_X1_add_1 tyX1_ok nmX1 0 (by decide) (List.mem_of_getElem? (i := 1) rfl) rfl rfl rfl (Nat.le_of_ble_eq_true rfl) ((wdO cI cJ cZ qh OC_h (O_h.1 + 1, O_h.2.1, O_h.2.2))) rfl 28 rfl ?_
    exact k_vret C dX1_add_28 ⟨(O_h.1 + 1, O_h.2.1, O_h.2.2), rfl, rfl, h⟩
  · have h := hf hc4; clear ht hf
    refine k_aload_n C dX1_add_7 0 rfl rfl 8 rfl ?_
    refine k_get C dX1_add_8 0 rfl (ci := 1) rfl hin_X1_add_1 2 (by decide) (List.mem_of_getElem? (i := 2) rfl) rfl 11 rfl ?_
    refine k_aload_n C dX1_add_11 0 rfl rfl 12 rfl ?_
    refine k_get C dX1_add_12 0 rfl (ci := 1) rfl hin_X1_add_1 3 (by decide) (List.mem_of_getElem? (i := 3) rfl) rfl 15 rfl ?_
    have hM := c_X6_copy (l := l) (D := D) (cI := cI) (cJ := cJ) (cZ := cZ) (qh 2) (qh 3) 6 (by decide) 6 (by decide) O_h.2.1 O_h.2.2 _ h
    refine k_callNS C dX1_add_15 hM gX1_add_X6_copy_n42 (List.mem_of_getElem? (i := 42) rfl) (List.mem_of_getElem? (i := 5) rfl) rfl sg_X6_copy (List.mem_of_getElem? (i := 4) rfl) rfl (Nat.le_of_ble_eq_true rfl) ⟨⟨rfl, rfl⟩, by decide, by decide⟩ ⟨Nat.le_refl 0, Nat.le_refl 0⟩ [2, 3] [0, 1] rfl rfl rfl rfl (by decide) 0 0 ⟨rfl, rfl⟩ 18 rfl (fun v w1 hq15 => ?_)
    obtain ⟨f_a1_15, rfl, rfl, h⟩ := hq15
    refine k_perm C [0, 1, 2, 3] [] ((wdO cI cJ cZ qh OC_h (O_h.1, O_h.2.1, f_a1_15))) rfl rfl rfl ?_
    refine k_aload_n C dX1_add_18 0 rfl rfl 19 rfl ?_
    refine k_dup C dX1_add_19 rfl 20 rfl ?_
    refine k_get C dX1_add_20 0 rfl (ci := 1) rfl hin_X1_add_1 0 (by decide) (List.mem_of_getElem? (i := 1) rfl) rfl 23 rfl ?_
    refine k_iconst C dX1_add_23 24 rfl ?_
    refine k_iadd C dX1_add_24 25 rfl ?_
    refine k_put C dX1_add_25 0 rfl (ci := 1) rfl hin_X1_add_1 tyX1_ok nmX1 0 (by decide) (List.mem_of_getElem? (i := 1) rfl) rfl rfl rfl (Nat.le_of_ble_eq_true rfl) ((wdO cI cJ cZ qh OC_h (O_h.1 + 1, O_h.2.1, f_a1_15))) rfl 28 rfl ?_
    exact k_vret C dX1_add_28 ⟨(O_h.1 + 1, O_h.2.1, f_a1_15), rfl, rfl, h⟩

/-! X2_add -/
abbrev rm_X2_add : Room := { frames := 1, cells := 0, slots := 0, locals := 22 }
theorem sg_X2_add : yX2_add.cls ≠ "java/lang/invoke/MethodHandle" ∧ yX2_add.cls ≠ "java/lang/invoke/VarHandle" ∧ (parseMethodDescriptor yX2_add.desc).map (fun d => d.parameters.length) = some 1 := by decide +kernel
theorem hin_X2_add_2 : ∀ w ∈ wsX20, w ∈ wsX2_add := fun _ h => List.mem_cons_of_mem _ (List.mem_append_right _ h)
def rp_X2_add (cI cJ cZ : ClassId) (qh : Nat → Nat) (Q : gPP → Prop) : Option Value → va_W → Prop := fun v w1 => ∃ (P_h : gPP), v = none ∧ w1 = (wdP cI cJ cZ qh P_h) ∧ Q P_h
def wp_X2_add (P_h : gPP) (x1 : Int) (Q : gPP → Prop) : Prop :=
    wp_X6_set 60 P_h.2 P_h.1 x1 (fun (f_a0_9 : Int → Int) => Q (P_h.1 + 1, f_a0_9))

set_option maxHeartbeats 4000000 in
set_option maxRecDepth 20000 in
theorem c_X2_add {l : Launch} {D : va_G} {cI cJ cZ : ClassId} (qh : Nat → Nat) (P_h : gPP) (x1 : Int) (Q : gPP → Prop) (h : wp_X2_add P_h x1 Q) : KM l D (kT cI cJ cZ) 0 0 yX2_add wsX2_add rm_X2_add [.ref (qh 0), .int (iI x1)] ((wdP cI cJ cZ qh P_h)) (rp_X2_add cI cJ cZ qh Q) := by
  refine KM_intro (lv := [(0, .ref (qh 0)), (1, .int (iI x1))]) false rfl (by decide) (Nat.le_of_ble_eq_true rfl) rfl (fun h => absurd h (by decide)) (fun v ws hq => by obtain ⟨P_h, rfl, rfl, _⟩ := hq; exact Or.inl ⟨rfl, rfl⟩) (fun A K C => ?_)
  refine k_aload_n C dX2_add_0 0 rfl rfl 1 rfl ?_
  refine k_get C dX2_add_1 0 rfl (ci := 2) rfl hin_X2_add_2 1 (by decide) (List.mem_of_getElem? (i := 1) rfl) rfl 4 rfl ?_
  refine k_aload_n C dX2_add_4 0 rfl rfl 5 rfl ?_
  refine k_get C dX2_add_5 0 rfl (ci := 2) rfl hin_X2_add_2 0 (by decide) (List.mem_of_getElem? (i := 2) rfl) rfl 8 rfl ?_
  refine k_iload_n C dX2_add_8 1 rfl rfl 9 rfl ?_
  have hM := c_X6_set (l := l) (D := D) (cI := cI) (cJ := cJ) (cZ := cZ) (qh 1) 60 (by decide) P_h.2 P_h.1 x1 _ h
  refine k_callNS C dX2_add_9 hM gX2_add_X6_set_n19 (List.mem_of_getElem? (i := 34) rfl) (List.mem_of_getElem? (i := 4) rfl) rfl sg_X6_set (List.mem_of_getElem? (i := 3) rfl) rfl (Nat.le_of_ble_eq_true rfl) ⟨⟨rfl, rfl⟩, by decide, by decide⟩ ⟨Nat.le_refl 0, Nat.le_refl 0⟩ [1] [0] rfl rfl rfl rfl (by decide) 0 0 ⟨rfl, rfl⟩ 12 rfl (fun v w1 hq9 => ?_)
  obtain ⟨f_a0_9, rfl, rfl, h⟩ := hq9
  refine k_perm C [0, 1] [] ((wdP cI cJ cZ qh (P_h.1, f_a0_9))) rfl rfl rfl ?_
  refine k_aload_n C dX2_add_12 0 rfl rfl 13 rfl ?_
  refine k_dup C dX2_add_13 rfl 14 rfl ?_
  refine k_get C dX2_add_14 0 rfl (ci := 2) rfl hin_X2_add_2 0 (by decide) (List.mem_of_getElem? (i := 2) rfl) rfl 17 rfl ?_
  refine k_iconst C dX2_add_17 18 rfl ?_
  refine k_iadd C dX2_add_18 19 rfl ?_
  refine k_put C dX2_add_19 0 rfl (ci := 2) rfl hin_X2_add_2 tyX2_ok nmX2 0 (by decide) (List.mem_of_getElem? (i := 2) rfl) rfl rfl rfl (Nat.le_of_ble_eq_true rfl) ((wdP cI cJ cZ qh (P_h.1 + 1, f_a0_9))) rfl 22 rfl ?_
  exact k_vret C dX2_add_22 ⟨(P_h.1 + 1, f_a0_9), rfl, rfl, h⟩

/-! X2_firstFault -/
abbrev rm_X2_firstFault : Room := { frames := 1, cells := 0, slots := 0, locals := 21 }
theorem sg_X2_firstFault : yX2_firstFault.cls ≠ "java/lang/invoke/MethodHandle" ∧ yX2_firstFault.cls ≠ "java/lang/invoke/VarHandle" ∧ (parseMethodDescriptor yX2_firstFault.desc).map (fun d => d.parameters.length) = some 1 := by decide +kernel
theorem hin_X2_firstFault_2 : ∀ w ∈ wsX20, w ∈ wsX2_firstFault := fun _ h => List.mem_cons_of_mem _ (List.mem_append_right _ h)
def rp_X2_firstFault (cI cJ cZ : ClassId) (qh : Nat → Nat) (P_h : gPP) (Q : Int → Prop) : Option Value → va_W → Prop := fun v w1 => ∃ (r : Int), v = some (.int (iI r)) ∧ w1 = (wdP cI cJ cZ qh P_h) ∧ Q r
def wp_X2_firstFault_78 (K_7 : Int → Int → Int → Prop) (K_85 : Int → Prop)  (Q : Int → Prop) (x1 : Int) (x2 : Int) (x3 : Int) (s0 : Int) : Prop :=
    rI s0 ∧ ((¬ s0 = 0 → K_7 x1 x2 (x3 + 1)) ∧ (¬ (¬ s0 = 0) → K_85 x3))
def wp_X2_firstFault_7 (P_h : gPP) (K_85 : Int → Prop) (K_93 : Int → Prop)  (Q : Int → Prop) : Nat → Int → Int → Int → Prop
  | 0, _, _, _ => False
  | n7 + 1, x1, x2, x3 =>
    rI x3 ∧ rI x2 ∧ ((x2 ≤ x3 → K_93 x2) ∧ (¬ (x2 ≤ x3) → wp_X6_at 60 P_h.2 x3 (fun (r17 : Int) => rI (x3.tmod 2) ∧ ((¬ (x3.tmod 2) = 0 → rI r17 ∧ ((r17 = 45 → wp_X2_firstFault_78 (fun (x1 : Int) (x2 : Int) (x3 : Int) => wp_X2_firstFault_7 P_h K_85 K_93 Q n7 x1 x2 x3) K_85 Q x1 x2 x3 1) ∧ (¬ (r17 = 45) → ((r17 < 48 → wp_X2_firstFault_78 (fun (x1 : Int) (x2 : Int) (x3 : Int) => wp_X2_firstFault_7 P_h K_85 K_93 Q n7 x1 x2 x3) K_85 Q x1 x2 x3 0) ∧ (¬ (r17 < 48) → rI (48 + x1) ∧ (((48 + x1) ≤ r17 → wp_X2_firstFault_78 (fun (x1 : Int) (x2 : Int) (x3 : Int) => wp_X2_firstFault_7 P_h K_85 K_93 Q n7 x1 x2 x3) K_85 Q x1 x2 x3 0) ∧ (¬ ((48 + x1) ≤ r17) → wp_X2_firstFault_78 (fun (x1 : Int) (x2 : Int) (x3 : Int) => wp_X2_firstFault_7 P_h K_85 K_93 Q n7 x1 x2 x3) K_85 Q x1 x2 x3 1))))))) ∧ (¬ (¬ (x3.tmod 2) = 0) → rI r17 ∧ ((r17 < 65 → wp_X2_firstFault_78 (fun (x1 : Int) (x2 : Int) (x3 : Int) => wp_X2_firstFault_7 P_h K_85 K_93 Q n7 x1 x2 x3) K_85 Q x1 x2 x3 0) ∧ (¬ (r17 < 65) → ((75 ≤ r17 → wp_X2_firstFault_78 (fun (x1 : Int) (x2 : Int) (x3 : Int) => wp_X2_firstFault_7 P_h K_85 K_93 Q n7 x1 x2 x3) K_85 Q x1 x2 x3 0) ∧ (¬ (75 ≤ r17) → wp_X2_firstFault_78 (fun (x1 : Int) (x2 : Int) (x3 : Int) => wp_X2_firstFault_7 P_h K_85 K_93 Q n7 x1 x2 x3) K_85 Q x1 x2 x3 1)))))))))
def wp_X2_firstFault (P_h : gPP) (x1 : Int) (Q : Int → Prop) : Prop :=
    ∃ m7, wp_X2_firstFault_7 P_h (fun (x3 : Int) => Q x3) (fun (x2 : Int) => rI x2 ∧ rI (x2.tmod 2) ∧ ((¬ (x2.tmod 2) = 1 → Q (-6)) ∧ (¬ (¬ (x2.tmod 2) = 1) → Q x2))) Q m7 x1 P_h.1 0
set_option maxHeartbeats 4000000 in
set_option maxRecDepth 20000 in
theorem w_X2_firstFault_78 {l : Launch} {D : va_G} {cI cJ cZ : ClassId} {A : Nat → Prop} {K : KT} {qh : Nat → Nat} {P_h : gPP} {Q : Int → Prop} {K_7 : Int → Int → Int → Prop} {K_85 : Int → Prop} (C : KC cX2_firstFault yX2_firstFault.cls wsX2_firstFault rm_X2_firstFault 6 D (kT cI cJ cZ) A l false (rp_X2_firstFault cI cJ cZ qh P_h Q) 0 0 K) : ∀ (x1 : Int) (x2 : Int) (x3 : Int) (s0 : Int), wp_X2_firstFault_78 K_7 K_85 Q x1 x2 x3 s0 → (∀ (x1 : Int) (x2 : Int) (x3 : Int), K_7 x1 x2 x3 → K 0 0 7 [(0, .ref (qh 0)), (1, .int (iI x1)), (2, .int (iI x2)), (3, .int (iI x3))] [] ((wdP cI cJ cZ qh P_h))) → (∀ (x3 : Int), K_85 x3 → K 0 0 85 [(3, .int (iI x3))] [] ((wdP cI cJ cZ qh P_h))) → K 0 0 78 [(0, .ref (qh 0)), (1, .int (iI x1)), (2, .int (iI x2)), (3, .int (iI x3))] [.int (iI s0)] ((wdP cI cJ cZ qh P_h)) := by
  intro x1 x2 x3 s0 h hK_7 hK_85
  refine k_istore C dX2_firstFault_78 (by decide) [(5, .int (iI s0)), (0, .ref (qh 0)), (1, .int (iI x1)), (2, .int (iI x2)), (3, .int (iI x3))] rfl 80 rfl ?_
  refine k_iload C dX2_firstFault_80 0 rfl 82 rfl ?_
  obtain ⟨hr82a, h⟩ := h
  obtain ⟨ht, hf⟩ := h
  refine k_if_ne C dX2_firstFault_82 hr82a 87 85 (by decide) rfl (fun hc82 => ?_) (fun hc82 => ?_)
  · have h := ht hc82; clear ht hf
    refine k_iinc (j := 4) C dX2_firstFault_87 rfl (by decide) [(3, .int (iI (x3 + 1))), (5, .int (iI s0)), (0, .ref (qh 0)), (1, .int (iI x1)), (2, .int (iI x2))] rfl 90 rfl ?_
    refine k_goto C dX2_firstFault_90 7 (by decide) ?_
    refine k_lv C [2, 3, 4, 0] [(0, .ref (qh 0)), (1, .int (iI x1)), (2, .int (iI x2)), (3, .int (iI (x3 + 1)))] rfl ?_
    exact hK_7 x1 x2 (x3 + 1) h
  · have h := hf hc82; clear ht hf
    refine k_lv C [4] [(3, .int (iI x3))] rfl ?_
    exact hK_85 x3 h
set_option maxHeartbeats 4000000 in
set_option maxRecDepth 20000 in
theorem w_X2_firstFault_7 {l : Launch} {D : va_G} {cI cJ cZ : ClassId} {A : Nat → Prop} {K : KT} {qh : Nat → Nat} {P_h : gPP} {Q : Int → Prop} {K_85 : Int → Prop} {K_93 : Int → Prop} (C : KC cX2_firstFault yX2_firstFault.cls wsX2_firstFault rm_X2_firstFault 6 D (kT cI cJ cZ) A l false (rp_X2_firstFault cI cJ cZ qh P_h Q) 0 0 K) : ∀ (n : Nat) (x1 : Int) (x2 : Int) (x3 : Int), wp_X2_firstFault_7 P_h K_85 K_93 Q n x1 x2 x3 → (∀ (x3 : Int), K_85 x3 → K 0 0 85 [(3, .int (iI x3))] [] ((wdP cI cJ cZ qh P_h))) → (∀ (x2 : Int), K_93 x2 → K 0 0 93 [(2, .int (iI x2))] [] ((wdP cI cJ cZ qh P_h))) → K 0 0 7 [(0, .ref (qh 0)), (1, .int (iI x1)), (2, .int (iI x2)), (3, .int (iI x3))] [] ((wdP cI cJ cZ qh P_h)) := by
  intro n
  induction n with
  | zero => intro x1 x2 x3 h; exact h.elim
  | succ n ih =>
    intro x1 x2 x3 h hK_85 hK_93
    refine k_iload_n C dX2_firstFault_7 3 rfl rfl 8 rfl ?_
    refine k_iload_n C dX2_firstFault_8 2 rfl rfl 9 rfl ?_
    obtain ⟨hr9a, hr9b, h⟩ := h
    obtain ⟨ht, hf⟩ := h
    refine k_icmp_ge C dX2_firstFault_9 ⟨hr9a, hr9b⟩ 93 12 (by decide) rfl (fun hc9 => ?_) (fun hc9 => ?_)
    · have h := ht hc9; clear ht hf
      refine k_lv C [2] [(2, .int (iI x2))] rfl ?_
      exact hK_93 x2 h
    · have h := hf hc9; clear ht hf
      refine k_aload_n C dX2_firstFault_12 0 rfl rfl 13 rfl ?_
      refine k_get C dX2_firstFault_13 0 rfl (ci := 2) rfl hin_X2_firstFault_2 1 (by decide) (List.mem_of_getElem? (i := 2) rfl) rfl 16 rfl ?_
      refine k_iload_n C dX2_firstFault_16 3 rfl rfl 17 rfl ?_
      have hM := c_X6_at (l := l) (D := D) (cI := cI) (cJ := cJ) (cZ := cZ) (qh 1) 60 (by decide) P_h.2 x3 _ h
      refine k_callNS C dX2_firstFault_17 hM gX2_firstFault_X6_at_n23 (List.mem_of_getElem? (i := 35) rfl) (List.mem_of_getElem? (i := 4) rfl) rfl sg_X6_at (List.mem_of_getElem? (i := 3) rfl) rfl (Nat.le_of_ble_eq_true rfl) ⟨⟨rfl, rfl⟩, by decide, by decide⟩ ⟨Nat.le_refl 0, Nat.le_refl 0⟩ [1] [0] rfl rfl rfl rfl (by decide) 0 0 ⟨rfl, rfl⟩ 20 rfl (fun v w1 hq17 => ?_)
      obtain ⟨r17, rfl, rfl, h⟩ := hq17
      refine k_perm C [0, 1] [.int (iI r17)] ((wdP cI cJ cZ qh P_h)) rfl rfl rfl ?_
      refine k_istore C dX2_firstFault_20 (by decide) [(4, .int (iI r17)), (0, .ref (qh 0)), (1, .int (iI x1)), (2, .int (iI x2)), (3, .int (iI x3))] rfl 22 rfl ?_
      refine k_iload_n C dX2_firstFault_22 4 rfl rfl 23 rfl ?_
      refine k_iconst C dX2_firstFault_23 24 rfl ?_
      refine k_irem C dX2_firstFault_24 ⟨hr9a, (by decide), (by decide)⟩ 25 rfl ?_
      obtain ⟨hr25a, h⟩ := h
      obtain ⟨ht, hf⟩ := h
      refine k_if_ne C dX2_firstFault_25 hr25a 50 28 (by decide) rfl (fun hc25 => ?_) (fun hc25 => ?_)
      · have h := ht hc25; clear ht hf
        refine k_iload C dX2_firstFault_50 0 rfl 52 rfl ?_
        refine k_bipush C dX2_firstFault_52 (by decide) 54 rfl ?_
        obtain ⟨hr54a, h⟩ := h
        obtain ⟨ht, hf⟩ := h
        refine k_icmp_eq C dX2_firstFault_54 ⟨hr54a, (by decide)⟩ 73 57 (by decide) rfl (fun hc54 => ?_) (fun hc54 => ?_)
        · have h := ht hc54; clear ht hf
          refine k_iconst C dX2_firstFault_73 74 rfl ?_
          refine k_goto C dX2_firstFault_74 78 (by decide) ?_
          refine k_lv C [1, 2, 3, 4] [(0, .ref (qh 0)), (1, .int (iI x1)), (2, .int (iI x2)), (3, .int (iI x3))] rfl ?_
          refine w_X2_firstFault_78 C x1 x2 x3 1 h (fun x1 x2 x3 h => ?_) hK_85
          · exact ih x1 x2 x3 h hK_85 hK_93
        · have h := hf hc54; clear ht hf
          refine k_iload C dX2_firstFault_57 0 rfl 59 rfl ?_
          refine k_bipush C dX2_firstFault_59 (by decide) 61 rfl ?_
          obtain ⟨ht, hf⟩ := h
          refine k_icmp_lt C dX2_firstFault_61 ⟨hr54a, (by decide)⟩ 77 64 (by decide) rfl (fun hc61 => ?_) (fun hc61 => ?_)
          · have h := ht hc61; clear ht hf
            refine k_iconst C dX2_firstFault_77 78 rfl ?_
            refine k_lv C [1, 2, 3, 4] [(0, .ref (qh 0)), (1, .int (iI x1)), (2, .int (iI x2)), (3, .int (iI x3))] rfl ?_
            refine w_X2_firstFault_78 C x1 x2 x3 0 h (fun x1 x2 x3 h => ?_) hK_85
            · exact ih x1 x2 x3 h hK_85 hK_93
          · have h := hf hc61; clear ht hf
            refine k_iload C dX2_firstFault_64 0 rfl 66 rfl ?_
            refine k_bipush C dX2_firstFault_66 (by decide) 68 rfl ?_
            refine k_iload_n C dX2_firstFault_68 2 rfl rfl 69 rfl ?_
            refine k_iadd C dX2_firstFault_69 70 rfl ?_
            obtain ⟨hr70a, h⟩ := h
            obtain ⟨ht, hf⟩ := h
            refine k_icmp_ge C dX2_firstFault_70 ⟨hr54a, hr70a⟩ 77 73 (by decide) rfl (fun hc70 => ?_) (fun hc70 => ?_)
            · have h := ht hc70; clear ht hf
              refine k_iconst C dX2_firstFault_77 78 rfl ?_
              refine k_lv C [1, 2, 3, 4] [(0, .ref (qh 0)), (1, .int (iI x1)), (2, .int (iI x2)), (3, .int (iI x3))] rfl ?_
              refine w_X2_firstFault_78 C x1 x2 x3 0 h (fun x1 x2 x3 h => ?_) hK_85
              · exact ih x1 x2 x3 h hK_85 hK_93
            · have h := hf hc70; clear ht hf
              refine k_iconst C dX2_firstFault_73 74 rfl ?_
              refine k_goto C dX2_firstFault_74 78 (by decide) ?_
              refine k_lv C [1, 2, 3, 4] [(0, .ref (qh 0)), (1, .int (iI x1)), (2, .int (iI x2)), (3, .int (iI x3))] rfl ?_
              refine w_X2_firstFault_78 C x1 x2 x3 1 h (fun x1 x2 x3 h => ?_) hK_85
              · exact ih x1 x2 x3 h hK_85 hK_93
      · have h := hf hc25; clear ht hf
        refine k_iload C dX2_firstFault_28 0 rfl 30 rfl ?_
        refine k_bipush C dX2_firstFault_30 (by decide) 32 rfl ?_
        obtain ⟨hr32a, h⟩ := h
        obtain ⟨ht, hf⟩ := h
        refine k_icmp_lt C dX2_firstFault_32 ⟨hr32a, (by decide)⟩ 46 35 (by decide) rfl (fun hc32 => ?_) (fun hc32 => ?_)
        · have h := ht hc32; clear ht hf
          refine k_iconst C dX2_firstFault_46 47 rfl ?_
          refine k_goto C dX2_firstFault_47 78 (by decide) ?_
          refine k_lv C [1, 2, 3, 4] [(0, .ref (qh 0)), (1, .int (iI x1)), (2, .int (iI x2)), (3, .int (iI x3))] rfl ?_
          refine w_X2_firstFault_78 C x1 x2 x3 0 h (fun x1 x2 x3 h => ?_) hK_85
          · exact ih x1 x2 x3 h hK_85 hK_93
        · have h := hf hc32; clear ht hf
          refine k_iload C dX2_firstFault_35 0 rfl 37 rfl ?_
          refine k_bipush C dX2_firstFault_37 (by decide) 39 rfl ?_
          obtain ⟨ht, hf⟩ := h
          refine k_icmp_ge C dX2_firstFault_39 ⟨hr32a, (by decide)⟩ 46 42 (by decide) rfl (fun hc39 => ?_) (fun hc39 => ?_)
          · have h := ht hc39; clear ht hf
            refine k_iconst C dX2_firstFault_46 47 rfl ?_
            refine k_goto C dX2_firstFault_47 78 (by decide) ?_
            refine k_lv C [1, 2, 3, 4] [(0, .ref (qh 0)), (1, .int (iI x1)), (2, .int (iI x2)), (3, .int (iI x3))] rfl ?_
            refine w_X2_firstFault_78 C x1 x2 x3 0 h (fun x1 x2 x3 h => ?_) hK_85
            · exact ih x1 x2 x3 h hK_85 hK_93
          · have h := hf hc39; clear ht hf
            refine k_iconst C dX2_firstFault_42 43 rfl ?_
            refine k_goto C dX2_firstFault_43 78 (by decide) ?_
            refine k_lv C [1, 2, 3, 4] [(0, .ref (qh 0)), (1, .int (iI x1)), (2, .int (iI x2)), (3, .int (iI x3))] rfl ?_
            refine w_X2_firstFault_78 C x1 x2 x3 1 h (fun x1 x2 x3 h => ?_) hK_85
            · exact ih x1 x2 x3 h hK_85 hK_93
set_option maxHeartbeats 4000000 in
set_option maxRecDepth 20000 in
theorem c_X2_firstFault {l : Launch} {D : va_G} {cI cJ cZ : ClassId} (qh : Nat → Nat) (P_h : gPP) (x1 : Int) (Q : Int → Prop) (h : wp_X2_firstFault P_h x1 Q) : KM l D (kT cI cJ cZ) 0 0 yX2_firstFault wsX2_firstFault rm_X2_firstFault [.ref (qh 0), .int (iI x1)] ((wdP cI cJ cZ qh P_h)) (rp_X2_firstFault cI cJ cZ qh P_h Q) := by
  refine KM_intro (lv := [(0, .ref (qh 0)), (1, .int (iI x1))]) false rfl (by decide) (Nat.le_of_ble_eq_true rfl) rfl (fun h => absurd h (by decide)) (fun v ws hq => by obtain ⟨r, rfl, rfl, _⟩ := hq; exact Or.inr (Or.inl ⟨rfl, _, rfl⟩)) (fun A K C => ?_)
  refine k_aload_n C dX2_firstFault_0 0 rfl rfl 1 rfl ?_
  refine k_get C dX2_firstFault_1 0 rfl (ci := 2) rfl hin_X2_firstFault_2 0 (by decide) (List.mem_of_getElem? (i := 1) rfl) rfl 4 rfl ?_
  refine k_istore_n C dX2_firstFault_4 rfl (by decide) [(2, .int (iI P_h.1)), (0, .ref (qh 0)), (1, .int (iI x1))] rfl 5 rfl ?_
  refine k_iconst C dX2_firstFault_5 6 rfl ?_
  refine k_istore_n C dX2_firstFault_6 rfl (by decide) [(3, .int (iI 0)), (2, .int (iI P_h.1)), (0, .ref (qh 0)), (1, .int (iI x1))] rfl 7 rfl ?_
  refine k_lv C [2, 3, 1, 0] [(0, .ref (qh 0)), (1, .int (iI x1)), (2, .int (iI P_h.1)), (3, .int (iI 0))] rfl ?_
  obtain ⟨m7, h⟩ := h
  refine w_X2_firstFault_7 C m7 x1 P_h.1 0 h (fun x3 h => ?_) (fun x2 h => ?_)
  · refine k_iload_n C dX2_firstFault_85 0 rfl rfl 86 rfl ?_
    exact k_iret C dX2_firstFault_86 ⟨x3, rfl, rfl, h⟩
  · refine k_iload_n C dX2_firstFault_93 0 rfl rfl 94 rfl ?_
    refine k_iconst C dX2_firstFault_94 95 rfl ?_
    obtain ⟨hr95a, h⟩ := h
    refine k_irem C dX2_firstFault_95 ⟨hr95a, (by decide), (by decide)⟩ 96 rfl ?_
    refine k_iconst C dX2_firstFault_96 97 rfl ?_
    obtain ⟨hr97a, h⟩ := h
    obtain ⟨ht, hf⟩ := h
    refine k_icmp_ne C dX2_firstFault_97 ⟨hr97a, (by decide)⟩ 104 100 (by decide) rfl (fun hc97 => ?_) (fun hc97 => ?_)
    · have h := ht hc97; clear ht hf
      refine k_bipush C dX2_firstFault_104 (by decide) 106 rfl ?_
      exact k_iret C dX2_firstFault_106 ⟨(-6), rfl, rfl, h⟩
    · have h := hf hc97; clear ht hf
      refine k_iload_n C dX2_firstFault_100 0 rfl rfl 101 rfl ?_
      refine k_goto C dX2_firstFault_101 106 (by decide) ?_
      exact k_iret C dX2_firstFault_106 ⟨x2, rfl, rfl, h⟩

/-! X6_fill -/
abbrev rm_X6_fill : Room := { frames := 0, cells := 0, slots := 0, locals := 0 }
theorem sg_X6_fill : yX6_fill.cls ≠ "java/lang/invoke/MethodHandle" ∧ yX6_fill.cls ≠ "java/lang/invoke/VarHandle" ∧ (parseMethodDescriptor yX6_fill.desc).map (fun d => d.parameters.length) = some 2 := by decide +kernel
def rp_X6_fill (cI cJ cZ : ClassId) (qa0 : Nat) (N_a0 : Nat) (Q : (Int → Int) → Prop) : Option Value → va_W → Prop := fun v w1 => ∃ (f_a0 : (Int → Int)), v = none ∧ w1 = [(qa0, .inl (cI, N_a0, .inl (mI f_a0)))] ∧ Q f_a0
def wp_X6_fill_7 (n_a0 : Int) (K_23 : (Int → Int) → Prop)  (Q : (Int → Int) → Prop) : Nat → Int → Int → (Int → Int) → Prop
  | 0, _, _, _ => False
  | n7 + 1, x1, x2, f_a0 =>
    rI x2 ∧ ((n_a0 ≤ x2 → K_23 f_a0) ∧ (¬ (n_a0 ≤ x2) → (0 ≤ x2 ∧ x2 < n_a0) ∧ wp_X6_fill_7 n_a0 K_23 Q n7 x1 (x2 + 1) (aset f_a0 x2 x1)))
def wp_X6_fill (n_a0 : Int) (f_a0 : (Int → Int)) (x1 : Int) (Q : (Int → Int) → Prop) : Prop :=
    ∃ m7, wp_X6_fill_7 n_a0 (fun (f_a0 : (Int → Int)) => Q f_a0) Q m7 x1 0 f_a0
set_option maxHeartbeats 4000000 in
set_option maxRecDepth 20000 in
theorem w_X6_fill_7 {l : Launch} {D : va_G} {cI cJ cZ : ClassId} {A : Nat → Prop} {K : KT} {qa0 : Nat} {N_a0 : Nat} {Q : (Int → Int) → Prop} {K_23 : (Int → Int) → Prop} (hN_a0 : N_a0 ≤ 2147483647) (C : KC cX6_fill yX6_fill.cls wsX6_fill rm_X6_fill 3 D (kT cI cJ cZ) A l false (rp_X6_fill cI cJ cZ qa0 N_a0 Q) 0 0 K) : ∀ (n : Nat) (x1 : Int) (x2 : Int) (f_a0 : (Int → Int)), wp_X6_fill_7 (N_a0 : Int) K_23 Q n x1 x2 f_a0 → (∀ (f_a0 : (Int → Int)), K_23 f_a0 → K 0 0 23 [] [] ([(qa0, .inl (cI, N_a0, .inl (mI f_a0)))])) → K 0 0 7 [(0, .ref qa0), (1, .int (iI x1)), (2, .int (iI x2))] [] ([(qa0, .inl (cI, N_a0, .inl (mI f_a0)))]) := by
  intro n
  induction n with
  | zero => intro x1 x2 f_a0 h; exact h.elim
  | succ n ih =>
    intro x1 x2 f_a0 h hK_23
    refine k_iload_n C dX6_fill_7 2 rfl rfl 8 rfl ?_
    refine k_aload_n C dX6_fill_8 0 rfl rfl 9 rfl ?_
    refine k_alen C dX6_fill_9 0 0 rfl rfl 10 rfl ?_
    obtain ⟨hr10a, h⟩ := h
    obtain ⟨ht, hf⟩ := h
    refine k_icmp_ge C dX6_fill_10 ⟨hr10a, ⟨by omega, by omega⟩⟩ 23 13 (by decide) rfl (fun hc10 => ?_) (fun hc10 => ?_)
    · have h := ht hc10; clear ht hf
      refine k_lv C [] [] rfl ?_
      exact hK_23 f_a0 h
    · have h := hf hc10; clear ht hf
      refine k_aload_n C dX6_fill_13 0 rfl rfl 14 rfl ?_
      refine k_iload_n C dX6_fill_14 2 rfl rfl 15 rfl ?_
      refine k_iload_n C dX6_fill_15 1 rfl rfl 16 rfl ?_
      obtain ⟨hi16, h⟩ := h
      refine k_iastore C dX6_fill_16 0 0 rfl rfl hN_a0 hi16 ([(qa0, .inl (cI, N_a0, .inl (mI (aset f_a0 x2 x1))))]) rfl 17 rfl ?_
      refine k_iinc (j := 2) C dX6_fill_17 rfl (by decide) [(2, .int (iI (x2 + 1))), (0, .ref qa0), (1, .int (iI x1))] rfl 20 rfl ?_
      refine k_goto C dX6_fill_20 7 (by decide) ?_
      refine k_lv C [1, 2, 0] [(0, .ref qa0), (1, .int (iI x1)), (2, .int (iI (x2 + 1)))] rfl ?_
      exact ih x1 (x2 + 1) (aset f_a0 x2 x1) h hK_23
set_option maxHeartbeats 4000000 in
set_option maxRecDepth 20000 in
theorem c_X6_fill {l : Launch} {D : va_G} {cI cJ cZ : ClassId} (qa0 : Nat) (N_a0 : Nat) (hN_a0 : N_a0 ≤ 2147483647) (f_a0 : (Int → Int)) (x1 : Int) (Q : (Int → Int) → Prop) (h : wp_X6_fill (N_a0 : Int) f_a0 x1 Q) : KM l D (kT cI cJ cZ) 0 0 yX6_fill wsX6_fill rm_X6_fill [.ref qa0, .int (iI x1)] ([(qa0, .inl (cI, N_a0, .inl (mI f_a0)))]) (rp_X6_fill cI cJ cZ qa0 N_a0 Q) := by
  refine KM_intro (lv := [(0, .ref qa0), (1, .int (iI x1))]) false rfl (by decide) (Nat.le_of_ble_eq_true rfl) rfl (fun h => absurd h (by decide)) (fun v ws hq => by obtain ⟨f_a0, rfl, rfl, _⟩ := hq; exact Or.inl ⟨rfl, rfl⟩) (fun A K C => ?_)
  refine k_aload_n C dX6_fill_0 0 rfl rfl 1 rfl ?_
  refine k_ifnonnull C dX6_fill_1 5 (by decide) ?_
  refine k_iconst C dX6_fill_5 6 rfl ?_
  refine k_istore_n C dX6_fill_6 rfl (by decide) [(2, .int (iI 0)), (0, .ref qa0), (1, .int (iI x1))] rfl 7 rfl ?_
  refine k_lv C [1, 2, 0] [(0, .ref qa0), (1, .int (iI x1)), (2, .int (iI 0))] rfl ?_
  obtain ⟨m7, h⟩ := h
  refine w_X6_fill_7 hN_a0 C m7 x1 0 f_a0 h (fun f_a0 h => ?_)
  · exact k_vret C dX6_fill_23 ⟨f_a0, rfl, rfl, h⟩

/-! X3_start -/
abbrev rm_X3_start : Room := { frames := 1, cells := 0, slots := 0, locals := 22 }
theorem sg_X3_start : yX3_start.cls ≠ "java/lang/invoke/MethodHandle" ∧ yX3_start.cls ≠ "java/lang/invoke/VarHandle" ∧ (parseMethodDescriptor yX3_start.desc).map (fun d => d.parameters.length) = some 0 := by decide +kernel
theorem hin_X3_start_3 : ∀ w ∈ wsX30, w ∈ wsX3_start := fun _ h => List.mem_cons_of_mem _ (List.mem_append_right _ h)
def rp_X3_start (cI cJ cZ : ClassId) (qh : Nat → Nat) (Q : gRR → Prop) : Option Value → va_W → Prop := fun v w1 => ∃ (R_h : gRR), v = none ∧ w1 = (wdR cI cJ cZ qh R_h) ∧ Q R_h
def wp_X3_start (R_h : gRR) (Q : gRR → Prop) : Prop :=
    wp_X6_fill 99 R_h.2.2.2 0 (fun (f_a0_20 : Int → Int) => Q (0, 0, 0, f_a0_20))

set_option maxHeartbeats 4000000 in
set_option maxRecDepth 20000 in
theorem c_X3_start {l : Launch} {D : va_G} {cI cJ cZ : ClassId} (qh : Nat → Nat) (R_h : gRR) (Q : gRR → Prop) (h : wp_X3_start R_h Q) : KM l D (kT cI cJ cZ) 0 0 yX3_start wsX3_start rm_X3_start [.ref (qh 0)] ((wdR cI cJ cZ qh R_h)) (rp_X3_start cI cJ cZ qh Q) := by
  refine KM_intro (lv := [(0, .ref (qh 0))]) false rfl (by decide) (Nat.le_of_ble_eq_true rfl) rfl (fun h => absurd h (by decide)) (fun v ws hq => by obtain ⟨R_h, rfl, rfl, _⟩ := hq; exact Or.inl ⟨rfl, rfl⟩) (fun A K C => ?_)
  refine k_aload_n C dX3_start_0 0 rfl rfl 1 rfl ?_
  refine k_iconst C dX3_start_1 2 rfl ?_
  refine k_put C dX3_start_2 0 rfl (ci := 3) rfl hin_X3_start_3 tyX3_ok nmX3 0 (by decide) (List.mem_of_getElem? (i := 1) rfl) rfl rfl rfl (Nat.le_of_ble_eq_true rfl) ((wdR cI cJ cZ qh (0, R_h.2.1, R_h.2.2.1, R_h.2.2.2))) rfl 5 rfl ?_
  refine k_aload_n C dX3_start_5 0 rfl rfl 6 rfl ?_
  refine k_iconst C dX3_start_6 7 rfl ?_
  refine k_put C dX3_start_7 0 rfl (ci := 3) rfl hin_X3_start_3 tyX3_ok nmX3 1 (by decide) (List.mem_of_getElem? (i := 2) rfl) rfl rfl rfl (Nat.le_of_ble_eq_true rfl) ((wdR cI cJ cZ qh (0, 0, R_h.2.2.1, R_h.2.2.2))) rfl 10 rfl ?_
  refine k_aload_n C dX3_start_10 0 rfl rfl 11 rfl ?_
  refine k_iconst C dX3_start_11 12 rfl ?_
  refine k_put C dX3_start_12 0 rfl (ci := 3) rfl hin_X3_start_3 tyX3_ok nmX3 2 (by decide) (List.mem_of_getElem? (i := 3) rfl) rfl rfl rfl (Nat.le_of_ble_eq_true rfl) ((wdR cI cJ cZ qh (0, 0, 0, R_h.2.2.2))) rfl 15 rfl ?_
  refine k_aload_n C dX3_start_15 0 rfl rfl 16 rfl ?_
  refine k_get C dX3_start_16 0 rfl (ci := 3) rfl hin_X3_start_3 3 (by decide) (List.mem_of_getElem? (i := 4) rfl) rfl 19 rfl ?_
  refine k_iconst C dX3_start_19 20 rfl ?_
  have hM := c_X6_fill (l := l) (D := D) (cI := cI) (cJ := cJ) (cZ := cZ) (qh 1) 99 (by decide) R_h.2.2.2 0 _ h
  refine k_callNS C dX3_start_20 hM gX3_start_X6_fill_n25 (List.mem_of_getElem? (i := 44) rfl) (List.mem_of_getElem? (i := 6) rfl) rfl sg_X6_fill (List.mem_of_getElem? (i := 5) rfl) rfl (Nat.le_of_ble_eq_true rfl) ⟨⟨rfl, rfl⟩, by decide, by decide⟩ ⟨Nat.le_refl 0, Nat.le_refl 0⟩ [1] [0] rfl rfl rfl rfl (by decide) 0 0 ⟨rfl, rfl⟩ 23 rfl (fun v w1 hq20 => ?_)
  obtain ⟨f_a0_20, rfl, rfl, h⟩ := hq20
  refine k_perm C [0, 1] [] ((wdR cI cJ cZ qh (0, 0, 0, f_a0_20))) rfl rfl rfl ?_
  exact k_vret C dX3_start_23 ⟨(0, 0, 0, f_a0_20), rfl, rfl, h⟩

/-! X3_add -/
abbrev rm_X3_add : Room := { frames := 1, cells := 0, slots := 0, locals := 22 }
theorem sg_X3_add : yX3_add.cls ≠ "java/lang/invoke/MethodHandle" ∧ yX3_add.cls ≠ "java/lang/invoke/VarHandle" ∧ (parseMethodDescriptor yX3_add.desc).map (fun d => d.parameters.length) = some 2 := by decide +kernel
theorem hin_X3_add_3 : ∀ w ∈ wsX30, w ∈ wsX3_add := fun _ h => List.mem_cons_of_mem _ (List.mem_append_left _ (List.mem_append_right _ h))
theorem hin_X3_add_5 : ∀ w ∈ wsX50, w ∈ wsX3_add := fun _ h => List.mem_cons_of_mem _ (List.mem_append_right _ h)
def rp_X3_add (cI cJ cZ : ClassId) (qh : Nat → Nat) (qa0 : Nat → Nat) (S_a0 : gWS) (T_a0 : gWT) (U_a0 : gWU) (Q : gRR → Prop) : Option Value → va_W → Prop := fun v w1 => ∃ (R_h : gRR), v = none ∧ w1 = (wdR cI cJ cZ qh R_h) ++ (wdW cI cJ cZ qa0 S_a0 T_a0 U_a0) ∧ Q R_h
def wp_X3_add_48 (T_a0 : gWT) (K_95 : gRR → Prop)  (Q : gRR → Prop) : Nat → Int → gRR → Prop
  | 0, _, _ => False
  | n48 + 1, x3, R_h =>
    rI x3 ∧ ((9 ≤ x3 → K_95 R_h) ∧ (¬ (9 ≤ x3) → wp_X6_at 9 T_a0.2.2.2.2 x3 (fun (r63 : Int) => wp_X6_at 99 R_h.2.2.2 ((x3 * 11) + r63) (fun (r81 : Int) => wp_X6_set 99 R_h.2.2.2 ((x3 * 11) + r63) (r81 + 1) (fun (f_a0_86 : Int → Int) => wp_X3_add_48 T_a0 K_95 Q n48 (x3 + 1) (R_h.1, R_h.2.1, R_h.2.2.1, f_a0_86))))))
def wp_X3_add_33 (T_a0 : gWT)  (Q : gRR → Prop) (s1 : Int) (R_h : gRR) : Prop :=
    ∃ m48, wp_X3_add_48 T_a0 (fun (R_h : gRR) => Q R_h) Q m48 0 (R_h.1 + 1, R_h.2.1, s1, R_h.2.2.2)
def wp_X3_add (R_h : gRR) (T_a0 : gWT) (x2 : Int) (Q : gRR → Prop) : Prop :=
    rI R_h.1 ∧ ((¬ R_h.1 = 0 → wp_X3_add_33 T_a0 Q (iand R_h.2.2.1 x2) (R_h.1, ior R_h.2.1 x2, R_h.2.2.1, R_h.2.2.2)) ∧ (¬ (¬ R_h.1 = 0) → wp_X3_add_33 T_a0 Q x2 (R_h.1, ior R_h.2.1 x2, R_h.2.2.1, R_h.2.2.2)))
set_option maxHeartbeats 4000000 in
set_option maxRecDepth 20000 in
theorem w_X3_add_48 {l : Launch} {D : va_G} {cI cJ cZ : ClassId} {A : Nat → Prop} {K : KT} {qh : Nat → Nat} {qa0 : Nat → Nat} {S_a0 : gWS} {T_a0 : gWT} {U_a0 : gWU} {Q : gRR → Prop} {K_95 : gRR → Prop} (C : KC cX3_add yX3_add.cls wsX3_add rm_X3_add 5 D (kT cI cJ cZ) A l false (rp_X3_add cI cJ cZ qh qa0 S_a0 T_a0 U_a0 Q) 0 0 K) : ∀ (n : Nat) (x3 : Int) (R_h : gRR), wp_X3_add_48 T_a0 K_95 Q n x3 R_h → (∀ (R_h : gRR), K_95 R_h → K 0 0 95 [] [] ((wdR cI cJ cZ qh R_h) ++ (wdW cI cJ cZ qa0 S_a0 T_a0 U_a0))) → K 0 0 48 [(0, .ref (qh 0)), (1, .ref (qa0 0)), (3, .int (iI x3))] [] ((wdR cI cJ cZ qh R_h) ++ (wdW cI cJ cZ qa0 S_a0 T_a0 U_a0)) := by
  intro n
  induction n with
  | zero => intro x3 R_h h; exact h.elim
  | succ n ih =>
    intro x3 R_h h hK_95
    refine k_iload_n C dX3_add_48 2 rfl rfl 49 rfl ?_
    refine k_bipush C dX3_add_49 (by decide) 51 rfl ?_
    obtain ⟨hr51a, h⟩ := h
    obtain ⟨ht, hf⟩ := h
    refine k_icmp_ge C dX3_add_51 ⟨hr51a, (by decide)⟩ 95 54 (by decide) rfl (fun hc51 => ?_) (fun hc51 => ?_)
    · have h := ht hc51; clear ht hf
      refine k_lv C [] [] rfl ?_
      exact hK_95 R_h h
    · have h := hf hc51; clear ht hf
      refine k_iload_n C dX3_add_54 2 rfl rfl 55 rfl ?_
      refine k_bipush C dX3_add_55 (by decide) 57 rfl ?_
      refine k_imul C dX3_add_57 58 rfl ?_
      refine k_aload_n C dX3_add_58 1 rfl rfl 59 rfl ?_
      refine k_getN C dX3_add_59 2 rfl (ci := 5) rfl hin_X3_add_5 9 (by decide) (List.mem_of_getElem? (i := 8) rfl) rfl 62 rfl ?_
      refine k_iload_n C dX3_add_62 2 rfl rfl 63 rfl ?_
      have hM := c_X6_at (l := l) (D := D) (cI := cI) (cJ := cJ) (cZ := cZ) (qa0 7) 9 (by decide) T_a0.2.2.2.2 x3 _ h
      refine k_callNS C dX3_add_63 hM gX3_add_X6_at_n34 (List.mem_of_getElem? (i := 46) rfl) (List.mem_of_getElem? (i := 6) rfl) rfl sg_X6_at (List.mem_of_getElem? (i := 5) rfl) rfl (Nat.le_of_ble_eq_true rfl) ⟨⟨rfl, rfl⟩, by decide, by decide⟩ ⟨Nat.le_refl 0, Nat.le_refl 0⟩ [9] [0, 1, 2, 3, 4, 5, 6, 7, 8, 10] rfl rfl rfl rfl (by decide) 0 0 ⟨rfl, rfl⟩ 66 rfl (fun v w1 hq63 => ?_)
      obtain ⟨r63, rfl, rfl, h⟩ := hq63
      refine k_perm C [0, 1, 2, 3, 4, 5, 6, 7, 8, 10, 9] [.int (iI r63), .int (iI (x3 * 11))] ((wdR cI cJ cZ qh R_h) ++ (wdW cI cJ cZ qa0 S_a0 T_a0 U_a0)) rfl rfl rfl ?_
      refine k_iadd C dX3_add_66 67 rfl ?_
      refine k_istore C dX3_add_67 (by decide) [(4, .int (iI ((x3 * 11) + r63))), (0, .ref (qh 0)), (1, .ref (qa0 0)), (3, .int (iI x3))] rfl 69 rfl ?_
      refine k_aload_n C dX3_add_69 1 rfl rfl 70 rfl ?_
      refine k_get C dX3_add_70 0 rfl (ci := 3) rfl hin_X3_add_3 3 (by decide) (List.mem_of_getElem? (i := 4) rfl) rfl 73 rfl ?_
      refine k_iload C dX3_add_73 0 rfl 75 rfl ?_
      refine k_aload_n C dX3_add_75 1 rfl rfl 76 rfl ?_
      refine k_get C dX3_add_76 0 rfl (ci := 3) rfl hin_X3_add_3 3 (by decide) (List.mem_of_getElem? (i := 4) rfl) rfl 79 rfl ?_
      refine k_iload C dX3_add_79 0 rfl 81 rfl ?_
      have hM := c_X6_at (l := l) (D := D) (cI := cI) (cJ := cJ) (cZ := cZ) (qh 1) 99 (by decide) R_h.2.2.2 ((x3 * 11) + r63) _ h
      refine k_callNS C dX3_add_81 hM gX3_add_X6_at_n34 (List.mem_of_getElem? (i := 46) rfl) (List.mem_of_getElem? (i := 6) rfl) rfl sg_X6_at (List.mem_of_getElem? (i := 5) rfl) rfl (Nat.le_of_ble_eq_true rfl) ⟨⟨rfl, rfl⟩, by decide, by decide⟩ ⟨Nat.le_refl 0, Nat.le_refl 0⟩ [1] [0, 2, 3, 4, 5, 6, 7, 8, 9, 10] rfl rfl rfl rfl (by decide) 0 0 ⟨rfl, rfl⟩ 84 rfl (fun v w1 hq81 => ?_)
      obtain ⟨r81, rfl, rfl, h⟩ := hq81
      refine k_perm C [0, 10, 1, 2, 3, 4, 5, 6, 7, 8, 9] [.int (iI r81), .int (iI ((x3 * 11) + r63)), .ref (qh 1)] ((wdR cI cJ cZ qh R_h) ++ (wdW cI cJ cZ qa0 S_a0 T_a0 U_a0)) rfl rfl rfl ?_
      refine k_iconst C dX3_add_84 85 rfl ?_
      refine k_iadd C dX3_add_85 86 rfl ?_
      have hM := c_X6_set (l := l) (D := D) (cI := cI) (cJ := cJ) (cZ := cZ) (qh 1) 99 (by decide) R_h.2.2.2 ((x3 * 11) + r63) (r81 + 1) _ h
      refine k_callNS C dX3_add_86 hM gX3_add_X6_set_n38 (List.mem_of_getElem? (i := 47) rfl) (List.mem_of_getElem? (i := 6) rfl) rfl sg_X6_set (List.mem_of_getElem? (i := 8) rfl) rfl (Nat.le_of_ble_eq_true rfl) ⟨⟨rfl, rfl⟩, by decide, by decide⟩ ⟨Nat.le_refl 0, Nat.le_refl 0⟩ [1] [0, 2, 3, 4, 5, 6, 7, 8, 9, 10] rfl rfl rfl rfl (by decide) 0 0 ⟨rfl, rfl⟩ 89 rfl (fun v w1 hq86 => ?_)
      obtain ⟨f_a0_86, rfl, rfl, h⟩ := hq86
      refine k_perm C [0, 10, 1, 2, 3, 4, 5, 6, 7, 8, 9] [] ((wdR cI cJ cZ qh (R_h.1, R_h.2.1, R_h.2.2.1, f_a0_86)) ++ (wdW cI cJ cZ qa0 S_a0 T_a0 U_a0)) rfl rfl rfl ?_
      refine k_iinc (j := 3) C dX3_add_89 rfl (by decide) [(3, .int (iI (x3 + 1))), (4, .int (iI ((x3 * 11) + r63))), (0, .ref (qh 0)), (1, .ref (qa0 0))] rfl 92 rfl ?_
      refine k_goto C dX3_add_92 48 (by decide) ?_
      refine k_lv C [2, 3, 0] [(0, .ref (qh 0)), (1, .ref (qa0 0)), (3, .int (iI (x3 + 1)))] rfl ?_
      exact ih (x3 + 1) (R_h.1, R_h.2.1, R_h.2.2.1, f_a0_86) h hK_95
set_option maxHeartbeats 4000000 in
set_option maxRecDepth 20000 in
theorem w_X3_add_33 {l : Launch} {D : va_G} {cI cJ cZ : ClassId} {A : Nat → Prop} {K : KT} {qh : Nat → Nat} {qa0 : Nat → Nat} {S_a0 : gWS} {T_a0 : gWT} {U_a0 : gWU} {Q : gRR → Prop} (C : KC cX3_add yX3_add.cls wsX3_add rm_X3_add 5 D (kT cI cJ cZ) A l false (rp_X3_add cI cJ cZ qh qa0 S_a0 T_a0 U_a0 Q) 0 0 K) : ∀ (s1 : Int) (R_h : gRR), wp_X3_add_33 T_a0 Q s1 R_h → K 0 0 33 [(0, .ref (qh 0)), (1, .ref (qa0 0))] [.int (iI s1), .ref (qh 0)] ((wdR cI cJ cZ qh R_h) ++ (wdW cI cJ cZ qa0 S_a0 T_a0 U_a0)) := by
  intro s1 R_h h 
  refine k_put C dX3_add_33 0 rfl (ci := 3) rfl hin_X3_add_3 tyX3_ok nmX3 2 (by decide) (List.mem_of_getElem? (i := 3) rfl) rfl rfl rfl (Nat.le_of_ble_eq_true rfl) ((wdR cI cJ cZ qh (R_h.1, R_h.2.1, s1, R_h.2.2.2)) ++ (wdW cI cJ cZ qa0 S_a0 T_a0 U_a0)) rfl 36 rfl ?_
  refine k_aload_n C dX3_add_36 0 rfl rfl 37 rfl ?_
  refine k_dup C dX3_add_37 rfl 38 rfl ?_
  refine k_get C dX3_add_38 0 rfl (ci := 3) rfl hin_X3_add_3 0 (by decide) (List.mem_of_getElem? (i := 2) rfl) rfl 41 rfl ?_
  refine k_iconst C dX3_add_41 42 rfl ?_
  refine k_iadd C dX3_add_42 43 rfl ?_
  refine k_put C dX3_add_43 0 rfl (ci := 3) rfl hin_X3_add_3 tyX3_ok nmX3 0 (by decide) (List.mem_of_getElem? (i := 2) rfl) rfl rfl rfl (Nat.le_of_ble_eq_true rfl) ((wdR cI cJ cZ qh (R_h.1 + 1, R_h.2.1, s1, R_h.2.2.2)) ++ (wdW cI cJ cZ qa0 S_a0 T_a0 U_a0)) rfl 46 rfl ?_
  refine k_iconst C dX3_add_46 47 rfl ?_
  refine k_istore_n C dX3_add_47 rfl (by decide) [(3, .int (iI 0)), (0, .ref (qh 0)), (1, .ref (qa0 0))] rfl 48 rfl ?_
  refine k_lv C [1, 2, 0] [(0, .ref (qh 0)), (1, .ref (qa0 0)), (3, .int (iI 0))] rfl ?_
  obtain ⟨m48, h⟩ := h
  refine w_X3_add_48 C m48 0 (R_h.1 + 1, R_h.2.1, s1, R_h.2.2.2) h (fun R_h h => ?_)
  · exact k_vret C dX3_add_95 ⟨R_h, rfl, rfl, h⟩
set_option maxHeartbeats 4000000 in
set_option maxRecDepth 20000 in
theorem c_X3_add {l : Launch} {D : va_G} {cI cJ cZ : ClassId} (qh : Nat → Nat) (qa0 : Nat → Nat) (R_h : gRR) (S_a0 : gWS) (T_a0 : gWT) (U_a0 : gWU) (x2 : Int) (Q : gRR → Prop) (h : wp_X3_add R_h T_a0 x2 Q) : KM l D (kT cI cJ cZ) 0 0 yX3_add wsX3_add rm_X3_add [.ref (qh 0), .ref (qa0 0), .int (iI x2)] ((wdR cI cJ cZ qh R_h) ++ (wdW cI cJ cZ qa0 S_a0 T_a0 U_a0)) (rp_X3_add cI cJ cZ qh qa0 S_a0 T_a0 U_a0 Q) := by
  refine KM_intro (lv := [(0, .ref (qh 0)), (1, .ref (qa0 0)), (2, .int (iI x2))]) false rfl (by decide) (Nat.le_of_ble_eq_true rfl) rfl (fun h => absurd h (by decide)) (fun v ws hq => by obtain ⟨R_h, rfl, rfl, _⟩ := hq; exact Or.inl ⟨rfl, rfl⟩) (fun A K C => ?_)
  refine k_aload_n C dX3_add_0 1 rfl rfl 1 rfl ?_
  refine k_ifnonnull C dX3_add_1 5 (by decide) ?_
  refine k_aload_n C dX3_add_5 0 rfl rfl 6 rfl ?_
  refine k_dup C dX3_add_6 rfl 7 rfl ?_
  refine k_get C dX3_add_7 0 rfl (ci := 3) rfl hin_X3_add_3 1 (by decide) (List.mem_of_getElem? (i := 1) rfl) rfl 10 rfl ?_
  refine k_iload_n C dX3_add_10 2 rfl rfl 11 rfl ?_
  refine k_ior C dX3_add_11 12 rfl ?_
  refine k_put C dX3_add_12 0 rfl (ci := 3) rfl hin_X3_add_3 tyX3_ok nmX3 1 (by decide) (List.mem_of_getElem? (i := 1) rfl) rfl rfl rfl (Nat.le_of_ble_eq_true rfl) ((wdR cI cJ cZ qh (R_h.1, ior R_h.2.1 x2, R_h.2.2.1, R_h.2.2.2)) ++ (wdW cI cJ cZ qa0 S_a0 T_a0 U_a0)) rfl 15 rfl ?_
  refine k_aload_n C dX3_add_15 0 rfl rfl 16 rfl ?_
  refine k_aload_n C dX3_add_16 0 rfl rfl 17 rfl ?_
  refine k_get C dX3_add_17 0 rfl (ci := 3) rfl hin_X3_add_3 0 (by decide) (List.mem_of_getElem? (i := 2) rfl) rfl 20 rfl ?_
  obtain ⟨hr20a, h⟩ := h
  obtain ⟨ht, hf⟩ := h
  refine k_if_ne C dX3_add_20 hr20a 27 23 (by decide) rfl (fun hc20 => ?_) (fun hc20 => ?_)
  · have h := ht hc20; clear ht hf
    refine k_aload_n C dX3_add_27 0 rfl rfl 28 rfl ?_
    refine k_get C dX3_add_28 0 rfl (ci := 3) rfl hin_X3_add_3 2 (by decide) (List.mem_of_getElem? (i := 3) rfl) rfl 31 rfl ?_
    refine k_iload_n C dX3_add_31 2 rfl rfl 32 rfl ?_
    refine k_iand C dX3_add_32 33 rfl ?_
    refine k_lv C [0, 1] [(0, .ref (qh 0)), (1, .ref (qa0 0))] rfl ?_
    refine w_X3_add_33 C (iand R_h.2.2.1 x2) (R_h.1, ior R_h.2.1 x2, R_h.2.2.1, R_h.2.2.2) h
  · have h := hf hc20; clear ht hf
    refine k_iload_n C dX3_add_23 2 rfl rfl 24 rfl ?_
    refine k_goto C dX3_add_24 33 (by decide) ?_
    refine k_lv C [0, 1] [(0, .ref (qh 0)), (1, .ref (qa0 0))] rfl ?_
    refine w_X3_add_33 C x2 (R_h.1, ior R_h.2.1 x2, R_h.2.2.1, R_h.2.2.2) h

/-! X3_mostLeft -/
abbrev rm_X3_mostLeft : Room := { frames := 1, cells := 0, slots := 0, locals := 64 }
theorem sg_X3_mostLeft : yX3_mostLeft.cls ≠ "java/lang/invoke/MethodHandle" ∧ yX3_mostLeft.cls ≠ "java/lang/invoke/VarHandle" ∧ (parseMethodDescriptor yX3_mostLeft.desc).map (fun d => d.parameters.length) = some 1 := by decide +kernel
theorem hin_X3_mostLeft_3 : ∀ w ∈ wsX30, w ∈ wsX3_mostLeft := fun _ h => List.mem_cons_of_mem _ (List.mem_append_right _ h)
def rp_X3_mostLeft (cI cJ cZ : ClassId) (qh : Nat → Nat) (R_h : gRR) (Q : Int → Prop) : Option Value → va_W → Prop := fun v w1 => ∃ (r : Int), v = some (.int (iI r)) ∧ w1 = (wdR cI cJ cZ qh R_h) ∧ Q r
def wp_X3_mostLeft_4 (R_h : gRR) (K_34 : Int → Prop)  (Q : Int → Prop) : Nat → Int → Int → Int → Prop
  | 0, _, _, _ => False
  | n4 + 1, x1, x2, x3 =>
    rI x3 ∧ ((11 ≤ x3 → K_34 x2) ∧ (¬ (11 ≤ x3) → wp_X6_at 99 R_h.2.2.2 ((x1 * 11) + x3) (fun (r21 : Int) => rI x2 ∧ rI r21 ∧ wp_X3_mostLeft_4 R_h K_34 Q n4 x1 (max x2 r21) (x3 + 1))))
def wp_X3_mostLeft (R_h : gRR) (x1 : Int) (Q : Int → Prop) : Prop :=
    ∃ m4, wp_X3_mostLeft_4 R_h (fun (x2 : Int) => Q x2) Q m4 x1 0 0
set_option maxHeartbeats 4000000 in
set_option maxRecDepth 20000 in
theorem w_X3_mostLeft_4 {l : Launch} {D : va_G} {cI cJ cZ : ClassId} {A : Nat → Prop} {K : KT} {qh : Nat → Nat} {R_h : gRR} {Q : Int → Prop} {K_34 : Int → Prop} (C : KC cX3_mostLeft yX3_mostLeft.cls wsX3_mostLeft rm_X3_mostLeft 4 D (kT cI cJ cZ) A l false (rp_X3_mostLeft cI cJ cZ qh R_h Q) 0 0 K) : ∀ (n : Nat) (x1 : Int) (x2 : Int) (x3 : Int), wp_X3_mostLeft_4 R_h K_34 Q n x1 x2 x3 → (∀ (x2 : Int), K_34 x2 → K 0 0 34 [(2, .int (iI x2))] [] ((wdR cI cJ cZ qh R_h))) → K 0 0 4 [(0, .ref (qh 0)), (1, .int (iI x1)), (2, .int (iI x2)), (3, .int (iI x3))] [] ((wdR cI cJ cZ qh R_h)) := by
  intro n
  induction n with
  | zero => intro x1 x2 x3 h; exact h.elim
  | succ n ih =>
    intro x1 x2 x3 h hK_34
    refine k_iload_n C dX3_mostLeft_4 3 rfl rfl 5 rfl ?_
    refine k_bipush C dX3_mostLeft_5 (by decide) 7 rfl ?_
    obtain ⟨hr7a, h⟩ := h
    obtain ⟨ht, hf⟩ := h
    refine k_icmp_ge C dX3_mostLeft_7 ⟨hr7a, (by decide)⟩ 34 10 (by decide) rfl (fun hc7 => ?_) (fun hc7 => ?_)
    · have h := ht hc7; clear ht hf
      refine k_lv C [2] [(2, .int (iI x2))] rfl ?_
      exact hK_34 x2 h
    · have h := hf hc7; clear ht hf
      refine k_iload_n C dX3_mostLeft_10 2 rfl rfl 11 rfl ?_
      refine k_aload_n C dX3_mostLeft_11 0 rfl rfl 12 rfl ?_
      refine k_get C dX3_mostLeft_12 0 rfl (ci := 3) rfl hin_X3_mostLeft_3 3 (by decide) (List.mem_of_getElem? (i := 1) rfl) rfl 15 rfl ?_
      refine k_iload_n C dX3_mostLeft_15 1 rfl rfl 16 rfl ?_
      refine k_bipush C dX3_mostLeft_16 (by decide) 18 rfl ?_
      refine k_imul C dX3_mostLeft_18 19 rfl ?_
      refine k_iload_n C dX3_mostLeft_19 3 rfl rfl 20 rfl ?_
      refine k_iadd C dX3_mostLeft_20 21 rfl ?_
      have hM := c_X6_at (l := l) (D := D) (cI := cI) (cJ := cJ) (cZ := cZ) (qh 1) 99 (by decide) R_h.2.2.2 ((x1 * 11) + x3) _ h
      refine k_callNS C dX3_mostLeft_21 hM gX3_mostLeft_X6_at_n34 (List.mem_of_getElem? (i := 46) rfl) (List.mem_of_getElem? (i := 7) rfl) rfl sg_X6_at (List.mem_of_getElem? (i := 6) rfl) rfl (Nat.le_of_ble_eq_true rfl) ⟨⟨rfl, rfl⟩, by decide, by decide⟩ ⟨Nat.le_refl 0, Nat.le_refl 0⟩ [1] [0] rfl rfl rfl rfl (by decide) 0 0 ⟨rfl, rfl⟩ 24 rfl (fun v w1 hq21 => ?_)
      obtain ⟨r21, rfl, rfl, h⟩ := hq21
      refine k_perm C [0, 1] [.int (iI r21), .int (iI x2)] ((wdR cI cJ cZ qh R_h)) rfl rfl rfl ?_
      obtain ⟨hr24a, hr24b, h⟩ := h
      refine k_mmax C dX3_mostLeft_24 (List.mem_of_getElem? (i := 2) rfl) (List.mem_of_getElem? (i := 3) rfl) (List.mem_of_getElem? (i := 4) rfl) (List.mem_of_getElem? (i := 5) rfl) (by decide) (Nat.le_of_ble_eq_true rfl) ⟨Nat.zero_le _, Nat.zero_le _⟩ ⟨hr24a, hr24b⟩ 27 rfl ?_
      refine k_istore_n C dX3_mostLeft_27 rfl (by decide) [(2, .int (iI (max x2 r21))), (0, .ref (qh 0)), (1, .int (iI x1)), (3, .int (iI x3))] rfl 28 rfl ?_
      refine k_iinc (j := 3) C dX3_mostLeft_28 rfl (by decide) [(3, .int (iI (x3 + 1))), (2, .int (iI (max x2 r21))), (0, .ref (qh 0)), (1, .int (iI x1))] rfl 31 rfl ?_
      refine k_goto C dX3_mostLeft_31 4 (by decide) ?_
      refine k_lv C [2, 3, 1, 0] [(0, .ref (qh 0)), (1, .int (iI x1)), (2, .int (iI (max x2 r21))), (3, .int (iI (x3 + 1)))] rfl ?_
      exact ih x1 (max x2 r21) (x3 + 1) h hK_34
set_option maxHeartbeats 4000000 in
set_option maxRecDepth 20000 in
theorem c_X3_mostLeft {l : Launch} {D : va_G} {cI cJ cZ : ClassId} (qh : Nat → Nat) (R_h : gRR) (x1 : Int) (Q : Int → Prop) (h : wp_X3_mostLeft R_h x1 Q) : KM l D (kT cI cJ cZ) 0 0 yX3_mostLeft wsX3_mostLeft rm_X3_mostLeft [.ref (qh 0), .int (iI x1)] ((wdR cI cJ cZ qh R_h)) (rp_X3_mostLeft cI cJ cZ qh R_h Q) := by
  refine KM_intro (lv := [(0, .ref (qh 0)), (1, .int (iI x1))]) false rfl (by decide) (Nat.le_of_ble_eq_true rfl) rfl (fun h => absurd h (by decide)) (fun v ws hq => by obtain ⟨r, rfl, rfl, _⟩ := hq; exact Or.inr (Or.inl ⟨rfl, _, rfl⟩)) (fun A K C => ?_)
  refine k_iconst C dX3_mostLeft_0 1 rfl ?_
  refine k_istore_n C dX3_mostLeft_1 rfl (by decide) [(2, .int (iI 0)), (0, .ref (qh 0)), (1, .int (iI x1))] rfl 2 rfl ?_
  refine k_iconst C dX3_mostLeft_2 3 rfl ?_
  refine k_istore_n C dX3_mostLeft_3 rfl (by decide) [(3, .int (iI 0)), (2, .int (iI 0)), (0, .ref (qh 0)), (1, .int (iI x1))] rfl 4 rfl ?_
  refine k_lv C [2, 3, 1, 0] [(0, .ref (qh 0)), (1, .int (iI x1)), (2, .int (iI 0)), (3, .int (iI 0))] rfl ?_
  obtain ⟨m4, h⟩ := h
  refine w_X3_mostLeft_4 C m4 x1 0 0 h (fun x2 h => ?_)
  · refine k_iload_n C dX3_mostLeft_34 0 rfl rfl 35 rfl ?_
    exact k_iret C dX3_mostLeft_35 ⟨x2, rfl, rfl, h⟩

/-! X4_become -/
abbrev rm_X4_become : Room := { frames := 2, cells := 0, slots := 0, locals := 85 }
theorem sg_X4_become : yX4_become.cls ≠ "java/lang/invoke/MethodHandle" ∧ yX4_become.cls ≠ "java/lang/invoke/VarHandle" ∧ (parseMethodDescriptor yX4_become.desc).map (fun d => d.parameters.length) = some 1 := by decide +kernel
theorem hin_X4_become_4 : ∀ w ∈ wsX40, w ∈ wsX4_become := fun _ h => List.mem_cons_of_mem _ (List.mem_append_right _ h)
def rp_X4_become (cI cJ cZ : ClassId) (qh : Nat → Nat) (qa0 : Nat → Nat) (G_a0 : gGG) (Q : gGG → Prop) : Option Value → va_W → Prop := fun v w1 => ∃ (G_h : gGG), v = none ∧ w1 = (wdG cI cJ cZ qh G_h) ++ (wdG cI cJ cZ qa0 G_a0) ∧ Q G_h
def wp_X4_become (G_h : gGG) (G_a0 : gGG) (Q : gGG → Prop) : Prop :=
    wp_X6_copy 8 8 G_a0.2.1 G_h.2.1 (fun (f_a1_21 : Int → Int) => wp_X6_copy 8 8 G_a0.2.2 G_h.2.2 (fun (f_a1_32 : Int → Int) => Q (G_a0.1, f_a1_21, f_a1_32)))

set_option maxHeartbeats 4000000 in
set_option maxRecDepth 20000 in
theorem c_X4_become {l : Launch} {D : va_G} {cI cJ cZ : ClassId} (qh : Nat → Nat) (qa0 : Nat → Nat) (G_h : gGG) (G_a0 : gGG) (Q : gGG → Prop) (h : wp_X4_become G_h G_a0 Q) : KM l D (kT cI cJ cZ) 0 0 yX4_become wsX4_become rm_X4_become [.ref (qh 0), .ref (qa0 0)] ((wdG cI cJ cZ qh G_h) ++ (wdG cI cJ cZ qa0 G_a0)) (rp_X4_become cI cJ cZ qh qa0 G_a0 Q) := by
  refine KM_intro (lv := [(0, .ref (qh 0)), (1, .ref (qa0 0))]) false rfl (by decide) (Nat.le_of_ble_eq_true rfl) rfl (fun h => absurd h (by decide)) (fun v ws hq => by obtain ⟨G_h, rfl, rfl, _⟩ := hq; exact Or.inl ⟨rfl, rfl⟩) (fun A K C => ?_)
  refine k_aload_n C dX4_become_0 1 rfl rfl 1 rfl ?_
  refine k_ifnonnull C dX4_become_1 5 (by decide) ?_
  refine k_aload_n C dX4_become_5 0 rfl rfl 6 rfl ?_
  refine k_aload_n C dX4_become_6 1 rfl rfl 7 rfl ?_
  refine k_get C dX4_become_7 3 rfl (ci := 4) rfl hin_X4_become_4 0 (by decide) (List.mem_of_getElem? (i := 1) rfl) rfl 10 rfl ?_
  refine k_put C dX4_become_10 0 rfl (ci := 4) rfl hin_X4_become_4 tyX4_ok nmX4 0 (by decide) (List.mem_of_getElem? (i := 1) rfl) rfl rfl rfl (Nat.le_of_ble_eq_true rfl) ((wdG cI cJ cZ qh (G_a0.1, G_h.2.1, G_h.2.2)) ++ (wdG cI cJ cZ qa0 G_a0)) rfl 13 rfl ?_
  refine k_aload_n C dX4_become_13 1 rfl rfl 14 rfl ?_
  refine k_get C dX4_become_14 3 rfl (ci := 4) rfl hin_X4_become_4 1 (by decide) (List.mem_of_getElem? (i := 2) rfl) rfl 17 rfl ?_
  refine k_aload_n C dX4_become_17 0 rfl rfl 18 rfl ?_
  refine k_get C dX4_become_18 0 rfl (ci := 4) rfl hin_X4_become_4 1 (by decide) (List.mem_of_getElem? (i := 2) rfl) rfl 21 rfl ?_
  have hM := c_X6_copy (l := l) (D := D) (cI := cI) (cJ := cJ) (cZ := cZ) (qa0 1) (qh 1) 8 (by decide) 8 (by decide) G_a0.2.1 G_h.2.1 _ h
  refine k_callNS C dX4_become_21 hM gX4_become_X6_copy_n22 (List.mem_of_getElem? (i := 48) rfl) (List.mem_of_getElem? (i := 5) rfl) rfl sg_X6_copy (List.mem_of_getElem? (i := 4) rfl) rfl (Nat.le_of_ble_eq_true rfl) ⟨⟨rfl, rfl⟩, by decide, by decide⟩ ⟨Nat.le_refl 0, Nat.le_refl 0⟩ [4, 1] [0, 2, 3, 5] rfl rfl rfl rfl (by decide) 0 0 ⟨rfl, rfl⟩ 24 rfl (fun v w1 hq21 => ?_)
  obtain ⟨f_a1_21, rfl, rfl, h⟩ := hq21
  refine k_perm C [0, 5, 1, 2, 4, 3] [] ((wdG cI cJ cZ qh (G_a0.1, f_a1_21, G_h.2.2)) ++ (wdG cI cJ cZ qa0 G_a0)) rfl rfl rfl ?_
  refine k_aload_n C dX4_become_24 1 rfl rfl 25 rfl ?_
  refine k_get C dX4_become_25 3 rfl (ci := 4) rfl hin_X4_become_4 2 (by decide) (List.mem_of_getElem? (i := 3) rfl) rfl 28 rfl ?_
  refine k_aload_n C dX4_become_28 0 rfl rfl 29 rfl ?_
  refine k_get C dX4_become_29 0 rfl (ci := 4) rfl hin_X4_become_4 2 (by decide) (List.mem_of_getElem? (i := 3) rfl) rfl 32 rfl ?_
  have hM := c_X6_copy (l := l) (D := D) (cI := cI) (cJ := cJ) (cZ := cZ) (qa0 2) (qh 2) 8 (by decide) 8 (by decide) G_a0.2.2 G_h.2.2 _ h
  refine k_callNS C dX4_become_32 hM gX4_become_X6_copy_n22 (List.mem_of_getElem? (i := 48) rfl) (List.mem_of_getElem? (i := 5) rfl) rfl sg_X6_copy (List.mem_of_getElem? (i := 4) rfl) rfl (Nat.le_of_ble_eq_true rfl) ⟨⟨rfl, rfl⟩, by decide, by decide⟩ ⟨Nat.le_refl 0, Nat.le_refl 0⟩ [5, 2] [0, 1, 3, 4] rfl rfl rfl rfl (by decide) 0 0 ⟨rfl, rfl⟩ 35 rfl (fun v w1 hq32 => ?_)
  obtain ⟨f_a1_32, rfl, rfl, h⟩ := hq32
  refine k_perm C [0, 1, 5, 2, 3, 4] [] ((wdG cI cJ cZ qh (G_a0.1, f_a1_21, f_a1_32)) ++ (wdG cI cJ cZ qa0 G_a0)) rfl rfl rfl ?_
  exact k_vret C dX4_become_35 ⟨(G_a0.1, f_a1_21, f_a1_32), rfl, rfl, h⟩

/-! X4_add -/
abbrev rm_X4_add : Room := { frames := 1, cells := 0, slots := 0, locals := 22 }
theorem sg_X4_add : yX4_add.cls ≠ "java/lang/invoke/MethodHandle" ∧ yX4_add.cls ≠ "java/lang/invoke/VarHandle" ∧ (parseMethodDescriptor yX4_add.desc).map (fun d => d.parameters.length) = some 2 := by decide +kernel
theorem hin_X4_add_4 : ∀ w ∈ wsX40, w ∈ wsX4_add := fun _ h => List.mem_cons_of_mem _ (List.mem_append_right _ h)
def rp_X4_add (cI cJ cZ : ClassId) (qh : Nat → Nat) (Q : gGG → Prop) : Option Value → va_W → Prop := fun v w1 => ∃ (G_h : gGG), v = none ∧ w1 = (wdG cI cJ cZ qh G_h) ∧ Q G_h
def wp_X4_add (G_h : gGG) (x1 : Int) (x2 : Int) (Q : gGG → Prop) : Prop :=
    wp_X6_set 8 G_h.2.1 G_h.1 x1 (fun (f_a0_9 : Int → Int) => wp_X6_set 8 G_h.2.2 G_h.1 x2 (fun (f_a0_21 : Int → Int) => Q (G_h.1 + 1, f_a0_9, f_a0_21)))

set_option maxHeartbeats 4000000 in
set_option maxRecDepth 20000 in
theorem c_X4_add {l : Launch} {D : va_G} {cI cJ cZ : ClassId} (qh : Nat → Nat) (G_h : gGG) (x1 : Int) (x2 : Int) (Q : gGG → Prop) (h : wp_X4_add G_h x1 x2 Q) : KM l D (kT cI cJ cZ) 0 0 yX4_add wsX4_add rm_X4_add [.ref (qh 0), .int (iI x1), .int (iI x2)] ((wdG cI cJ cZ qh G_h)) (rp_X4_add cI cJ cZ qh Q) := by
  refine KM_intro (lv := [(0, .ref (qh 0)), (1, .int (iI x1)), (2, .int (iI x2))]) false rfl (by decide) (Nat.le_of_ble_eq_true rfl) rfl (fun h => absurd h (by decide)) (fun v ws hq => by obtain ⟨G_h, rfl, rfl, _⟩ := hq; exact Or.inl ⟨rfl, rfl⟩) (fun A K C => ?_)
  refine k_aload_n C dX4_add_0 0 rfl rfl 1 rfl ?_
  refine k_get C dX4_add_1 0 rfl (ci := 4) rfl hin_X4_add_4 1 (by decide) (List.mem_of_getElem? (i := 1) rfl) rfl 4 rfl ?_
  refine k_aload_n C dX4_add_4 0 rfl rfl 5 rfl ?_
  refine k_get C dX4_add_5 0 rfl (ci := 4) rfl hin_X4_add_4 0 (by decide) (List.mem_of_getElem? (i := 2) rfl) rfl 8 rfl ?_
  refine k_iload_n C dX4_add_8 1 rfl rfl 9 rfl ?_
  have hM := c_X6_set (l := l) (D := D) (cI := cI) (cJ := cJ) (cZ := cZ) (qh 1) 8 (by decide) G_h.2.1 G_h.1 x1 _ h
  refine k_callNS C dX4_add_9 hM gX4_add_X6_set_n26 (List.mem_of_getElem? (i := 43) rfl) (List.mem_of_getElem? (i := 5) rfl) rfl sg_X6_set (List.mem_of_getElem? (i := 4) rfl) rfl (Nat.le_of_ble_eq_true rfl) ⟨⟨rfl, rfl⟩, by decide, by decide⟩ ⟨Nat.le_refl 0, Nat.le_refl 0⟩ [1] [0, 2] rfl rfl rfl rfl (by decide) 0 0 ⟨rfl, rfl⟩ 12 rfl (fun v w1 hq9 => ?_)
  obtain ⟨f_a0_9, rfl, rfl, h⟩ := hq9
  refine k_perm C [0, 2, 1] [] ((wdG cI cJ cZ qh (G_h.1, f_a0_9, G_h.2.2))) rfl rfl rfl ?_
  refine k_aload_n C dX4_add_12 0 rfl rfl 13 rfl ?_
  refine k_get C dX4_add_13 0 rfl (ci := 4) rfl hin_X4_add_4 2 (by decide) (List.mem_of_getElem? (i := 3) rfl) rfl 16 rfl ?_
  refine k_aload_n C dX4_add_16 0 rfl rfl 17 rfl ?_
  refine k_get C dX4_add_17 0 rfl (ci := 4) rfl hin_X4_add_4 0 (by decide) (List.mem_of_getElem? (i := 2) rfl) rfl 20 rfl ?_
  refine k_iload_n C dX4_add_20 2 rfl rfl 21 rfl ?_
  have hM := c_X6_set (l := l) (D := D) (cI := cI) (cJ := cJ) (cZ := cZ) (qh 2) 8 (by decide) G_h.2.2 G_h.1 x2 _ h
  refine k_callNS C dX4_add_21 hM gX4_add_X6_set_n26 (List.mem_of_getElem? (i := 43) rfl) (List.mem_of_getElem? (i := 5) rfl) rfl sg_X6_set (List.mem_of_getElem? (i := 4) rfl) rfl (Nat.le_of_ble_eq_true rfl) ⟨⟨rfl, rfl⟩, by decide, by decide⟩ ⟨Nat.le_refl 0, Nat.le_refl 0⟩ [2] [0, 1] rfl rfl rfl rfl (by decide) 0 0 ⟨rfl, rfl⟩ 24 rfl (fun v w1 hq21 => ?_)
  obtain ⟨f_a0_21, rfl, rfl, h⟩ := hq21
  refine k_perm C [0, 1, 2] [] ((wdG cI cJ cZ qh (G_h.1, f_a0_9, f_a0_21))) rfl rfl rfl ?_
  refine k_aload_n C dX4_add_24 0 rfl rfl 25 rfl ?_
  refine k_dup C dX4_add_25 rfl 26 rfl ?_
  refine k_get C dX4_add_26 0 rfl (ci := 4) rfl hin_X4_add_4 0 (by decide) (List.mem_of_getElem? (i := 2) rfl) rfl 29 rfl ?_
  refine k_iconst C dX4_add_29 30 rfl ?_
  refine k_iadd C dX4_add_30 31 rfl ?_
  refine k_put C dX4_add_31 0 rfl (ci := 4) rfl hin_X4_add_4 tyX4_ok nmX4 0 (by decide) (List.mem_of_getElem? (i := 2) rfl) rfl rfl rfl (Nat.le_of_ble_eq_true rfl) ((wdG cI cJ cZ qh (G_h.1 + 1, f_a0_9, f_a0_21))) rfl 34 rfl ?_
  exact k_vret C dX4_add_34 ⟨(G_h.1 + 1, f_a0_9, f_a0_21), rfl, rfl, h⟩

/-! X4_hasSeen -/
abbrev rm_X4_hasSeen : Room := { frames := 1, cells := 0, slots := 0, locals := 21 }
theorem sg_X4_hasSeen : yX4_hasSeen.cls ≠ "java/lang/invoke/MethodHandle" ∧ yX4_hasSeen.cls ≠ "java/lang/invoke/VarHandle" ∧ (parseMethodDescriptor yX4_hasSeen.desc).map (fun d => d.parameters.length) = some 1 := by decide +kernel
theorem hin_X4_hasSeen_4 : ∀ w ∈ wsX40, w ∈ wsX4_hasSeen := fun _ h => List.mem_cons_of_mem _ (List.mem_append_right _ h)
def rp_X4_hasSeen (cI cJ cZ : ClassId) (qh : Nat → Nat) (G_h : gGG) (Q : Int → Prop) : Option Value → va_W → Prop := fun v w1 => ∃ (r : Int), v = some (.int (iI r)) ∧ w1 = (wdG cI cJ cZ qh G_h) ∧ (r = 0 ∨ r = 1) ∧ Q r
def wp_X4_hasSeen_7 (G_h : gGG) (K_24 : Prop) (K_32 : Prop)  (Q : Int → Prop) : Nat → Int → Int → Int → Prop
  | 0, _, _, _ => False
  | n7 + 1, x1, x2, x3 =>
    rI x3 ∧ rI x2 ∧ ((x2 ≤ x3 → K_32 ) ∧ (¬ (x2 ≤ x3) → wp_X6_at 8 G_h.2.1 x3 (fun (r17 : Int) => rI r17 ∧ rI x1 ∧ ((¬ r17 = x1 → wp_X4_hasSeen_7 G_h K_24 K_32 Q n7 x1 x2 (x3 + 1)) ∧ (¬ (¬ r17 = x1) → K_24 )))))
def wp_X4_hasSeen (G_h : gGG) (x1 : Int) (Q : Int → Prop) : Prop :=
    ∃ m7, wp_X4_hasSeen_7 G_h (Q 1) (Q 0) Q m7 x1 G_h.1 0
set_option maxHeartbeats 4000000 in
set_option maxRecDepth 20000 in
theorem w_X4_hasSeen_7 {l : Launch} {D : va_G} {cI cJ cZ : ClassId} {A : Nat → Prop} {K : KT} {qh : Nat → Nat} {G_h : gGG} {Q : Int → Prop} {K_24 : Prop} {K_32 : Prop} (C : KC cX4_hasSeen yX4_hasSeen.cls wsX4_hasSeen rm_X4_hasSeen 4 D (kT cI cJ cZ) A l false (rp_X4_hasSeen cI cJ cZ qh G_h Q) 0 0 K) : ∀ (n : Nat) (x1 : Int) (x2 : Int) (x3 : Int), wp_X4_hasSeen_7 G_h K_24 K_32 Q n x1 x2 x3 → (∀ (_ : Unit), K_24  → K 0 0 24 [] [] ((wdG cI cJ cZ qh G_h))) → (∀ (_ : Unit), K_32  → K 0 0 32 [] [] ((wdG cI cJ cZ qh G_h))) → K 0 0 7 [(0, .ref (qh 0)), (1, .int (iI x1)), (2, .int (iI x2)), (3, .int (iI x3))] [] ((wdG cI cJ cZ qh G_h)) := by
  intro n
  induction n with
  | zero => intro x1 x2 x3 h; exact h.elim
  | succ n ih =>
    intro x1 x2 x3 h hK_24 hK_32
    refine k_iload_n C dX4_hasSeen_7 3 rfl rfl 8 rfl ?_
    refine k_iload_n C dX4_hasSeen_8 2 rfl rfl 9 rfl ?_
    obtain ⟨hr9a, hr9b, h⟩ := h
    obtain ⟨ht, hf⟩ := h
    refine k_icmp_ge C dX4_hasSeen_9 ⟨hr9a, hr9b⟩ 32 12 (by decide) rfl (fun hc9 => ?_) (fun hc9 => ?_)
    · have h := ht hc9; clear ht hf
      refine k_lv C [] [] rfl ?_
      exact hK_32 () h
    · have h := hf hc9; clear ht hf
      refine k_aload_n C dX4_hasSeen_12 0 rfl rfl 13 rfl ?_
      refine k_get C dX4_hasSeen_13 0 rfl (ci := 4) rfl hin_X4_hasSeen_4 1 (by decide) (List.mem_of_getElem? (i := 2) rfl) rfl 16 rfl ?_
      refine k_iload_n C dX4_hasSeen_16 3 rfl rfl 17 rfl ?_
      have hM := c_X6_at (l := l) (D := D) (cI := cI) (cJ := cJ) (cZ := cZ) (qh 1) 8 (by decide) G_h.2.1 x3 _ h
      refine k_callNS C dX4_hasSeen_17 hM gX4_hasSeen_X6_at_n30 (List.mem_of_getElem? (i := 45) rfl) (List.mem_of_getElem? (i := 4) rfl) rfl sg_X6_at (List.mem_of_getElem? (i := 3) rfl) rfl (Nat.le_of_ble_eq_true rfl) ⟨⟨rfl, rfl⟩, by decide, by decide⟩ ⟨Nat.le_refl 0, Nat.le_refl 0⟩ [1] [0, 2] rfl rfl rfl rfl (by decide) 0 0 ⟨rfl, rfl⟩ 20 rfl (fun v w1 hq17 => ?_)
      obtain ⟨r17, rfl, rfl, h⟩ := hq17
      refine k_perm C [0, 2, 1] [.int (iI r17)] ((wdG cI cJ cZ qh G_h)) rfl rfl rfl ?_
      refine k_iload_n C dX4_hasSeen_20 1 rfl rfl 21 rfl ?_
      obtain ⟨hr21a, hr21b, h⟩ := h
      obtain ⟨ht, hf⟩ := h
      refine k_icmp_ne C dX4_hasSeen_21 ⟨hr21a, hr21b⟩ 26 24 (by decide) rfl (fun hc21 => ?_) (fun hc21 => ?_)
      · have h := ht hc21; clear ht hf
        refine k_iinc (j := 3) C dX4_hasSeen_26 rfl (by decide) [(3, .int (iI (x3 + 1))), (0, .ref (qh 0)), (1, .int (iI x1)), (2, .int (iI x2))] rfl 29 rfl ?_
        refine k_goto C dX4_hasSeen_29 7 (by decide) ?_
        refine k_lv C [1, 2, 3, 0] [(0, .ref (qh 0)), (1, .int (iI x1)), (2, .int (iI x2)), (3, .int (iI (x3 + 1)))] rfl ?_
        exact ih x1 x2 (x3 + 1) h hK_24 hK_32
      · have h := hf hc21; clear ht hf
        refine k_lv C [] [] rfl ?_
        exact hK_24 () h
set_option maxHeartbeats 4000000 in
set_option maxRecDepth 20000 in
theorem c_X4_hasSeen {l : Launch} {D : va_G} {cI cJ cZ : ClassId} (qh : Nat → Nat) (G_h : gGG) (x1 : Int) (Q : Int → Prop) (h : wp_X4_hasSeen G_h x1 Q) : KM l D (kT cI cJ cZ) 0 0 yX4_hasSeen wsX4_hasSeen rm_X4_hasSeen [.ref (qh 0), .int (iI x1)] ((wdG cI cJ cZ qh G_h)) (rp_X4_hasSeen cI cJ cZ qh G_h Q) := by
  refine KM_intro (lv := [(0, .ref (qh 0)), (1, .int (iI x1))]) false rfl (by decide) (Nat.le_of_ble_eq_true rfl) rfl (fun h => absurd h (by decide)) (fun v ws hq => by obtain ⟨r, rfl, rfl, hb, _⟩ := hq; exact Or.inr (Or.inr (Or.inl ⟨rfl, by rcases hb with rfl | rfl; exact Or.inl rfl; exact Or.inr rfl⟩))) (fun A K C => ?_)
  refine k_aload_n C dX4_hasSeen_0 0 rfl rfl 1 rfl ?_
  refine k_get C dX4_hasSeen_1 0 rfl (ci := 4) rfl hin_X4_hasSeen_4 0 (by decide) (List.mem_of_getElem? (i := 1) rfl) rfl 4 rfl ?_
  refine k_istore_n C dX4_hasSeen_4 rfl (by decide) [(2, .int (iI G_h.1)), (0, .ref (qh 0)), (1, .int (iI x1))] rfl 5 rfl ?_
  refine k_iconst C dX4_hasSeen_5 6 rfl ?_
  refine k_istore_n C dX4_hasSeen_6 rfl (by decide) [(3, .int (iI 0)), (2, .int (iI G_h.1)), (0, .ref (qh 0)), (1, .int (iI x1))] rfl 7 rfl ?_
  refine k_lv C [2, 3, 1, 0] [(0, .ref (qh 0)), (1, .int (iI x1)), (2, .int (iI G_h.1)), (3, .int (iI 0))] rfl ?_
  obtain ⟨m7, h⟩ := h
  refine w_X4_hasSeen_7 C m7 x1 G_h.1 0 h (fun _ h => ?_) (fun _ h => ?_)
  · refine k_iconst C dX4_hasSeen_24 25 rfl ?_
    exact k_iret C dX4_hasSeen_25 ⟨1, rfl, rfl, (by decide), h⟩
  · refine k_iconst C dX4_hasSeen_32 33 rfl ?_
    exact k_iret C dX4_hasSeen_33 ⟨0, rfl, rfl, (by decide), h⟩

/-! X4_areSo -/
abbrev rm_X4_areSo : Room := { frames := 1, cells := 0, slots := 0, locals := 21 }
theorem sg_X4_areSo : yX4_areSo.cls ≠ "java/lang/invoke/MethodHandle" ∧ yX4_areSo.cls ≠ "java/lang/invoke/VarHandle" ∧ (parseMethodDescriptor yX4_areSo.desc).map (fun d => d.parameters.length) = some 1 := by decide +kernel
theorem hin_X4_areSo_4 : ∀ w ∈ wsX40, w ∈ wsX4_areSo := fun _ h => List.mem_cons_of_mem _ (List.mem_append_left _ (List.mem_append_right _ h))
theorem hin_X4_areSo_5 : ∀ w ∈ wsX50, w ∈ wsX4_areSo := fun _ h => List.mem_cons_of_mem _ (List.mem_append_right _ h)
def rp_X4_areSo (cI cJ cZ : ClassId) (qh : Nat → Nat) (qa0 : Nat → Nat) (G_h : gGG) (S_a0 : gWS) (T_a0 : gWT) (U_a0 : gWU) (Q : Int → Prop) : Option Value → va_W → Prop := fun v w1 => ∃ (r : Int), v = some (.int (iI r)) ∧ w1 = (wdG cI cJ cZ qh G_h) ++ (wdW cI cJ cZ qa0 S_a0 T_a0 U_a0) ∧ (r = 0 ∨ r = 1) ∧ Q r
def wp_X4_areSo_13 (G_h : gGG) (T_a0 : gWT) (K_44 : Prop) (K_52 : Prop)  (Q : Int → Prop) : Nat → Int → Int → Prop
  | 0, _, _ => False
  | n13 + 1, x2, x3 =>
    rI x3 ∧ rI x2 ∧ ((x2 ≤ x3 → K_52 ) ∧ (¬ (x2 ≤ x3) → wp_X6_at 8 G_h.2.1 x3 (fun (r27 : Int) => wp_X6_at 9 T_a0.2.2.2.2 r27 (fun (r30 : Int) => wp_X6_at 8 G_h.2.2 x3 (fun (r38 : Int) => rI r30 ∧ rI r38 ∧ ((r30 = r38 → wp_X4_areSo_13 G_h T_a0 K_44 K_52 Q n13 x2 (x3 + 1)) ∧ (¬ (r30 = r38) → K_44 )))))))
def wp_X4_areSo (G_h : gGG) (T_a0 : gWT) (Q : Int → Prop) : Prop :=
    ∃ m13, wp_X4_areSo_13 G_h T_a0 (Q 0) (Q 1) Q m13 G_h.1 0
set_option maxHeartbeats 4000000 in
set_option maxRecDepth 20000 in
theorem w_X4_areSo_13 {l : Launch} {D : va_G} {cI cJ cZ : ClassId} {A : Nat → Prop} {K : KT} {qh : Nat → Nat} {qa0 : Nat → Nat} {G_h : gGG} {S_a0 : gWS} {T_a0 : gWT} {U_a0 : gWU} {Q : Int → Prop} {K_44 : Prop} {K_52 : Prop} (C : KC cX4_areSo yX4_areSo.cls wsX4_areSo rm_X4_areSo 4 D (kT cI cJ cZ) A l false (rp_X4_areSo cI cJ cZ qh qa0 G_h S_a0 T_a0 U_a0 Q) 0 0 K) : ∀ (n : Nat) (x2 : Int) (x3 : Int), wp_X4_areSo_13 G_h T_a0 K_44 K_52 Q n x2 x3 → (∀ (_ : Unit), K_44  → K 0 0 44 [] [] ((wdG cI cJ cZ qh G_h) ++ (wdW cI cJ cZ qa0 S_a0 T_a0 U_a0))) → (∀ (_ : Unit), K_52  → K 0 0 52 [] [] ((wdG cI cJ cZ qh G_h) ++ (wdW cI cJ cZ qa0 S_a0 T_a0 U_a0))) → K 0 0 13 [(0, .ref (qh 0)), (1, .ref (qa0 0)), (2, .int (iI x2)), (3, .int (iI x3))] [] ((wdG cI cJ cZ qh G_h) ++ (wdW cI cJ cZ qa0 S_a0 T_a0 U_a0)) := by
  intro n
  induction n with
  | zero => intro x2 x3 h; exact h.elim
  | succ n ih =>
    intro x2 x3 h hK_44 hK_52
    refine k_iload_n C dX4_areSo_13 3 rfl rfl 14 rfl ?_
    refine k_iload_n C dX4_areSo_14 2 rfl rfl 15 rfl ?_
    obtain ⟨hr15a, hr15b, h⟩ := h
    obtain ⟨ht, hf⟩ := h
    refine k_icmp_ge C dX4_areSo_15 ⟨hr15a, hr15b⟩ 52 18 (by decide) rfl (fun hc15 => ?_) (fun hc15 => ?_)
    · have h := ht hc15; clear ht hf
      refine k_lv C [] [] rfl ?_
      exact hK_52 () h
    · have h := hf hc15; clear ht hf
      refine k_aload_n C dX4_areSo_18 1 rfl rfl 19 rfl ?_
      refine k_getN C dX4_areSo_19 3 rfl (ci := 5) rfl hin_X4_areSo_5 9 (by decide) (List.mem_of_getElem? (i := 9) rfl) rfl 22 rfl ?_
      refine k_aload_n C dX4_areSo_22 0 rfl rfl 23 rfl ?_
      refine k_get C dX4_areSo_23 0 rfl (ci := 4) rfl hin_X4_areSo_4 1 (by decide) (List.mem_of_getElem? (i := 2) rfl) rfl 26 rfl ?_
      refine k_iload_n C dX4_areSo_26 3 rfl rfl 27 rfl ?_
      have hM := c_X6_at (l := l) (D := D) (cI := cI) (cJ := cJ) (cZ := cZ) (qh 1) 8 (by decide) G_h.2.1 x3 _ h
      refine k_callNS C dX4_areSo_27 hM gX4_areSo_X6_at_n30 (List.mem_of_getElem? (i := 45) rfl) (List.mem_of_getElem? (i := 5) rfl) rfl sg_X6_at (List.mem_of_getElem? (i := 4) rfl) rfl (Nat.le_of_ble_eq_true rfl) ⟨⟨rfl, rfl⟩, by decide, by decide⟩ ⟨Nat.le_refl 0, Nat.le_refl 0⟩ [1] [0, 2, 3, 4, 5, 6, 7, 8, 9, 10, 11] rfl rfl rfl rfl (by decide) 0 0 ⟨rfl, rfl⟩ 30 rfl (fun v w1 hq27 => ?_)
      obtain ⟨r27, rfl, rfl, h⟩ := hq27
      refine k_perm C [0, 11, 1, 2, 3, 4, 5, 6, 7, 8, 9, 10] [.int (iI r27), .ref (qa0 7)] ((wdG cI cJ cZ qh G_h) ++ (wdW cI cJ cZ qa0 S_a0 T_a0 U_a0)) rfl rfl rfl ?_
      have hM := c_X6_at (l := l) (D := D) (cI := cI) (cJ := cJ) (cZ := cZ) (qa0 7) 9 (by decide) T_a0.2.2.2.2 r27 _ h
      refine k_callNS C dX4_areSo_30 hM gX4_areSo_X6_at_n30 (List.mem_of_getElem? (i := 45) rfl) (List.mem_of_getElem? (i := 5) rfl) rfl sg_X6_at (List.mem_of_getElem? (i := 4) rfl) rfl (Nat.le_of_ble_eq_true rfl) ⟨⟨rfl, rfl⟩, by decide, by decide⟩ ⟨Nat.le_refl 0, Nat.le_refl 0⟩ [10] [0, 1, 2, 3, 4, 5, 6, 7, 8, 9, 11] rfl rfl rfl rfl (by decide) 0 0 ⟨rfl, rfl⟩ 33 rfl (fun v w1 hq30 => ?_)
      obtain ⟨r30, rfl, rfl, h⟩ := hq30
      refine k_perm C [0, 1, 2, 3, 4, 5, 6, 7, 8, 9, 11, 10] [.int (iI r30)] ((wdG cI cJ cZ qh G_h) ++ (wdW cI cJ cZ qa0 S_a0 T_a0 U_a0)) rfl rfl rfl ?_
      refine k_aload_n C dX4_areSo_33 0 rfl rfl 34 rfl ?_
      refine k_get C dX4_areSo_34 0 rfl (ci := 4) rfl hin_X4_areSo_4 2 (by decide) (List.mem_of_getElem? (i := 3) rfl) rfl 37 rfl ?_
      refine k_iload_n C dX4_areSo_37 3 rfl rfl 38 rfl ?_
      have hM := c_X6_at (l := l) (D := D) (cI := cI) (cJ := cJ) (cZ := cZ) (qh 2) 8 (by decide) G_h.2.2 x3 _ h
      refine k_callNS C dX4_areSo_38 hM gX4_areSo_X6_at_n30 (List.mem_of_getElem? (i := 45) rfl) (List.mem_of_getElem? (i := 5) rfl) rfl sg_X6_at (List.mem_of_getElem? (i := 4) rfl) rfl (Nat.le_of_ble_eq_true rfl) ⟨⟨rfl, rfl⟩, by decide, by decide⟩ ⟨Nat.le_refl 0, Nat.le_refl 0⟩ [2] [0, 1, 3, 4, 5, 6, 7, 8, 9, 10, 11] rfl rfl rfl rfl (by decide) 0 0 ⟨rfl, rfl⟩ 41 rfl (fun v w1 hq38 => ?_)
      obtain ⟨r38, rfl, rfl, h⟩ := hq38
      refine k_perm C [0, 1, 11, 2, 3, 4, 5, 6, 7, 8, 9, 10] [.int (iI r38), .int (iI r30)] ((wdG cI cJ cZ qh G_h) ++ (wdW cI cJ cZ qa0 S_a0 T_a0 U_a0)) rfl rfl rfl ?_
      obtain ⟨hr41a, hr41b, h⟩ := h
      obtain ⟨ht, hf⟩ := h
      refine k_icmp_eq C dX4_areSo_41 ⟨hr41a, hr41b⟩ 46 44 (by decide) rfl (fun hc41 => ?_) (fun hc41 => ?_)
      · have h := ht hc41; clear ht hf
        refine k_iinc (j := 3) C dX4_areSo_46 rfl (by decide) [(3, .int (iI (x3 + 1))), (0, .ref (qh 0)), (1, .ref (qa0 0)), (2, .int (iI x2))] rfl 49 rfl ?_
        refine k_goto C dX4_areSo_49 13 (by decide) ?_
        refine k_lv C [1, 2, 3, 0] [(0, .ref (qh 0)), (1, .ref (qa0 0)), (2, .int (iI x2)), (3, .int (iI (x3 + 1)))] rfl ?_
        exact ih x2 (x3 + 1) h hK_44 hK_52
      · have h := hf hc41; clear ht hf
        refine k_lv C [] [] rfl ?_
        exact hK_44 () h
set_option maxHeartbeats 4000000 in
set_option maxRecDepth 20000 in
theorem c_X4_areSo {l : Launch} {D : va_G} {cI cJ cZ : ClassId} (qh : Nat → Nat) (qa0 : Nat → Nat) (G_h : gGG) (S_a0 : gWS) (T_a0 : gWT) (U_a0 : gWU) (Q : Int → Prop) (h : wp_X4_areSo G_h T_a0 Q) : KM l D (kT cI cJ cZ) 0 0 yX4_areSo wsX4_areSo rm_X4_areSo [.ref (qh 0), .ref (qa0 0)] ((wdG cI cJ cZ qh G_h) ++ (wdW cI cJ cZ qa0 S_a0 T_a0 U_a0)) (rp_X4_areSo cI cJ cZ qh qa0 G_h S_a0 T_a0 U_a0 Q) := by
  refine KM_intro (lv := [(0, .ref (qh 0)), (1, .ref (qa0 0))]) false rfl (by decide) (Nat.le_of_ble_eq_true rfl) rfl (fun h => absurd h (by decide)) (fun v ws hq => by obtain ⟨r, rfl, rfl, hb, _⟩ := hq; exact Or.inr (Or.inr (Or.inl ⟨rfl, by rcases hb with rfl | rfl; exact Or.inl rfl; exact Or.inr rfl⟩))) (fun A K C => ?_)
  refine k_aload_n C dX4_areSo_0 1 rfl rfl 1 rfl ?_
  refine k_ifnonnull C dX4_areSo_1 6 (by decide) ?_
  refine k_aload_n C dX4_areSo_6 0 rfl rfl 7 rfl ?_
  refine k_get C dX4_areSo_7 0 rfl (ci := 4) rfl hin_X4_areSo_4 0 (by decide) (List.mem_of_getElem? (i := 1) rfl) rfl 10 rfl ?_
  refine k_istore_n C dX4_areSo_10 rfl (by decide) [(2, .int (iI G_h.1)), (0, .ref (qh 0)), (1, .ref (qa0 0))] rfl 11 rfl ?_
  refine k_iconst C dX4_areSo_11 12 rfl ?_
  refine k_istore_n C dX4_areSo_12 rfl (by decide) [(3, .int (iI 0)), (2, .int (iI G_h.1)), (0, .ref (qh 0)), (1, .ref (qa0 0))] rfl 13 rfl ?_
  refine k_lv C [2, 3, 1, 0] [(0, .ref (qh 0)), (1, .ref (qa0 0)), (2, .int (iI G_h.1)), (3, .int (iI 0))] rfl ?_
  obtain ⟨m13, h⟩ := h
  refine w_X4_areSo_13 C m13 G_h.1 0 h (fun _ h => ?_) (fun _ h => ?_)
  · refine k_iconst C dX4_areSo_44 45 rfl ?_
    exact k_iret C dX4_areSo_45 ⟨0, rfl, rfl, (by decide), h⟩
  · refine k_iconst C dX4_areSo_52 53 rfl ?_
    exact k_iret C dX4_areSo_53 ⟨1, rfl, rfl, (by decide), h⟩

/-! X5_empty -/
abbrev rm_X5_empty : Room := { frames := 1, cells := 0, slots := 0, locals := 22 }
theorem sg_X5_empty : yX5_empty.cls ≠ "java/lang/invoke/MethodHandle" ∧ yX5_empty.cls ≠ "java/lang/invoke/VarHandle" ∧ (parseMethodDescriptor yX5_empty.desc).map (fun d => d.parameters.length) = some 1 := by decide +kernel
theorem hin_X5_empty_5 : ∀ w ∈ wsX50, w ∈ wsX5_empty := fun _ h => List.mem_cons_of_mem _ (List.mem_append_right _ h)
def rp_X5_empty (cI cJ cZ : ClassId) (qh : Nat → Nat) (U_h : gWU) (Q : gWS → gWT → Prop) : Option Value → va_W → Prop := fun v w1 => ∃ (S_h : gWS) (T_h : gWT), v = none ∧ w1 = (wdW cI cJ cZ qh S_h T_h U_h) ∧ Q S_h T_h
def wp_X5_empty (S_h : gWS) (T_h : gWT) (x1 : Int) (Q : gWS → gWT → Prop) : Prop :=
    wp_X6_fill 90 T_h.2.2.2.1 0 (fun (f_a0_20 : Int → Int) => wp_X6_fill 9 T_h.2.2.2.2 0 (fun (f_a0_28 : Int → Int) => Q (x1, 0, S_h.2.2.1, S_h.2.2.2.1, S_h.2.2.2.2) (0, T_h.2.1, T_h.2.2.1, f_a0_20, f_a0_28)))

set_option maxHeartbeats 4000000 in
set_option maxRecDepth 20000 in
theorem c_X5_empty {l : Launch} {D : va_G} {cI cJ cZ : ClassId} (qh : Nat → Nat) (S_h : gWS) (T_h : gWT) (U_h : gWU) (x1 : Int) (Q : gWS → gWT → Prop) (h : wp_X5_empty S_h T_h x1 Q) : KM l D (kT cI cJ cZ) 0 0 yX5_empty wsX5_empty rm_X5_empty [.ref (qh 0), .int (iI x1)] ((wdW cI cJ cZ qh S_h T_h U_h)) (rp_X5_empty cI cJ cZ qh U_h Q) := by
  refine KM_intro (lv := [(0, .ref (qh 0)), (1, .int (iI x1))]) false rfl (by decide) (Nat.le_of_ble_eq_true rfl) rfl (fun h => absurd h (by decide)) (fun v ws hq => by obtain ⟨S_h, T_h, rfl, rfl, _⟩ := hq; exact Or.inl ⟨rfl, rfl⟩) (fun A K C => ?_)
  refine k_aload_n C dX5_empty_0 0 rfl rfl 1 rfl ?_
  refine k_iload_n C dX5_empty_1 1 rfl rfl 2 rfl ?_
  refine k_put C dX5_empty_2 0 rfl (ci := 5) rfl hin_X5_empty_5 tyX5_ok nmX5 0 (by decide) (List.mem_of_getElem? (i := 1) rfl) rfl rfl rfl (Nat.le_of_ble_eq_true rfl) ((wdW cI cJ cZ qh (x1, S_h.2.1, S_h.2.2.1, S_h.2.2.2.1, S_h.2.2.2.2) T_h U_h)) rfl 5 rfl ?_
  refine k_aload_n C dX5_empty_5 0 rfl rfl 6 rfl ?_
  refine k_iconst C dX5_empty_6 7 rfl ?_
  refine k_put C dX5_empty_7 0 rfl (ci := 5) rfl hin_X5_empty_5 tyX5_ok nmX5 1 (by decide) (List.mem_of_getElem? (i := 2) rfl) rfl rfl rfl (Nat.le_of_ble_eq_true rfl) ((wdW cI cJ cZ qh (x1, 0, S_h.2.2.1, S_h.2.2.2.1, S_h.2.2.2.2) T_h U_h)) rfl 10 rfl ?_
  refine k_aload_n C dX5_empty_10 0 rfl rfl 11 rfl ?_
  refine k_iconst C dX5_empty_11 12 rfl ?_
  refine k_put C dX5_empty_12 0 rfl (ci := 5) rfl hin_X5_empty_5 tyX5_ok nmX5 2 (by decide) (List.mem_of_getElem? (i := 3) rfl) rfl rfl rfl (Nat.le_of_ble_eq_true rfl) ((wdW cI cJ cZ qh (x1, 0, S_h.2.2.1, S_h.2.2.2.1, S_h.2.2.2.2) (0, T_h.2.1, T_h.2.2.1, T_h.2.2.2.1, T_h.2.2.2.2) U_h)) rfl 15 rfl ?_
  refine k_aload_n C dX5_empty_15 0 rfl rfl 16 rfl ?_
  refine k_get C dX5_empty_16 0 rfl (ci := 5) rfl hin_X5_empty_5 8 (by decide) (List.mem_of_getElem? (i := 4) rfl) rfl 19 rfl ?_
  refine k_iconst C dX5_empty_19 20 rfl ?_
  have hM := c_X6_fill (l := l) (D := D) (cI := cI) (cJ := cJ) (cZ := cZ) (qh 6) 90 (by decide) T_h.2.2.2.1 0 _ h
  refine k_callNS C dX5_empty_20 hM gX5_empty_X6_fill_n47 (List.mem_of_getElem? (i := 31) rfl) (List.mem_of_getElem? (i := 7) rfl) rfl sg_X6_fill (List.mem_of_getElem? (i := 6) rfl) rfl (Nat.le_of_ble_eq_true rfl) ⟨⟨rfl, rfl⟩, by decide, by decide⟩ ⟨Nat.le_refl 0, Nat.le_refl 0⟩ [6] [0, 1, 2, 3, 4, 5, 7, 8] rfl rfl rfl rfl (by decide) 0 0 ⟨rfl, rfl⟩ 23 rfl (fun v w1 hq20 => ?_)
  obtain ⟨f_a0_20, rfl, rfl, h⟩ := hq20
  refine k_perm C [0, 1, 2, 3, 4, 5, 8, 6, 7] [] ((wdW cI cJ cZ qh (x1, 0, S_h.2.2.1, S_h.2.2.2.1, S_h.2.2.2.2) (0, T_h.2.1, T_h.2.2.1, f_a0_20, T_h.2.2.2.2) U_h)) rfl rfl rfl ?_
  refine k_aload_n C dX5_empty_23 0 rfl rfl 24 rfl ?_
  refine k_get C dX5_empty_24 0 rfl (ci := 5) rfl hin_X5_empty_5 9 (by decide) (List.mem_of_getElem? (i := 5) rfl) rfl 27 rfl ?_
  refine k_iconst C dX5_empty_27 28 rfl ?_
  have hM := c_X6_fill (l := l) (D := D) (cI := cI) (cJ := cJ) (cZ := cZ) (qh 7) 9 (by decide) T_h.2.2.2.2 0 _ h
  refine k_callNS C dX5_empty_28 hM gX5_empty_X6_fill_n47 (List.mem_of_getElem? (i := 31) rfl) (List.mem_of_getElem? (i := 7) rfl) rfl sg_X6_fill (List.mem_of_getElem? (i := 6) rfl) rfl (Nat.le_of_ble_eq_true rfl) ⟨⟨rfl, rfl⟩, by decide, by decide⟩ ⟨Nat.le_refl 0, Nat.le_refl 0⟩ [7] [0, 1, 2, 3, 4, 5, 6, 8] rfl rfl rfl rfl (by decide) 0 0 ⟨rfl, rfl⟩ 31 rfl (fun v w1 hq28 => ?_)
  obtain ⟨f_a0_28, rfl, rfl, h⟩ := hq28
  refine k_perm C [0, 1, 2, 3, 4, 5, 6, 8, 7] [] ((wdW cI cJ cZ qh (x1, 0, S_h.2.2.1, S_h.2.2.2.1, S_h.2.2.2.2) (0, T_h.2.1, T_h.2.2.1, f_a0_20, f_a0_28) U_h)) rfl rfl rfl ?_
  exact k_vret C dX5_empty_31 ⟨(x1, 0, S_h.2.2.1, S_h.2.2.2.1, S_h.2.2.2.2), (0, T_h.2.1, T_h.2.2.1, f_a0_20, f_a0_28), rfl, rfl, h⟩

/-! X5_become -/
abbrev rm_X5_become : Room := { frames := 2, cells := 0, slots := 0, locals := 85 }
theorem sg_X5_become : yX5_become.cls ≠ "java/lang/invoke/MethodHandle" ∧ yX5_become.cls ≠ "java/lang/invoke/VarHandle" ∧ (parseMethodDescriptor yX5_become.desc).map (fun d => d.parameters.length) = some 1 := by decide +kernel
theorem hin_X5_become_5 : ∀ w ∈ wsX50, w ∈ wsX5_become := fun _ h => List.mem_cons_of_mem _ (List.mem_append_right _ h)
def rp_X5_become (cI cJ cZ : ClassId) (qh : Nat → Nat) (qa0 : Nat → Nat) (U_h : gWU) (S_a0 : gWS) (T_a0 : gWT) (U_a0 : gWU) (Q : gWS → gWT → Prop) : Option Value → va_W → Prop := fun v w1 => ∃ (S_h : gWS) (T_h : gWT), v = none ∧ w1 = (wdW cI cJ cZ qh S_h T_h U_h) ++ (wdW cI cJ cZ qa0 S_a0 T_a0 U_a0) ∧ Q S_h T_h
def wp_X5_become (S_h : gWS) (T_h : gWT) (S_a0 : gWS) (T_a0 : gWT) (Q : gWS → gWT → Prop) : Prop :=
    wp_X6_copy 10 10 S_a0.2.2.1 S_h.2.2.1 (fun (f_a1_37 : Int → Int) => wp_X6_copy 10 10 S_a0.2.2.2.1 S_h.2.2.2.1 (fun (f_a1_48 : Int → Int) => wp_X6_copy 10 10 S_a0.2.2.2.2 S_h.2.2.2.2 (fun (f_a1_59 : Int → Int) => wp_X6_copy 10 10 T_a0.2.1 T_h.2.1 (fun (f_a1_70 : Int → Int) => wp_X6_copy 10 10 T_a0.2.2.1 T_h.2.2.1 (fun (f_a1_81 : Int → Int) => wp_X6_copy 90 90 T_a0.2.2.2.1 T_h.2.2.2.1 (fun (f_a1_92 : Int → Int) => wp_X6_copy 9 9 T_a0.2.2.2.2 T_h.2.2.2.2 (fun (f_a1_103 : Int → Int) => Q (S_a0.1, S_a0.2.1, f_a1_37, f_a1_48, f_a1_59) (T_a0.1, f_a1_70, f_a1_81, f_a1_92, f_a1_103))))))))

set_option maxHeartbeats 4000000 in
set_option maxRecDepth 20000 in
theorem c_X5_become {l : Launch} {D : va_G} {cI cJ cZ : ClassId} (qh : Nat → Nat) (qa0 : Nat → Nat) (S_h : gWS) (T_h : gWT) (U_h : gWU) (S_a0 : gWS) (T_a0 : gWT) (U_a0 : gWU) (Q : gWS → gWT → Prop) (h : wp_X5_become S_h T_h S_a0 T_a0 Q) : KM l D (kT cI cJ cZ) 0 0 yX5_become wsX5_become rm_X5_become [.ref (qh 0), .ref (qa0 0)] ((wdW cI cJ cZ qh S_h T_h U_h) ++ (wdW cI cJ cZ qa0 S_a0 T_a0 U_a0)) (rp_X5_become cI cJ cZ qh qa0 U_h S_a0 T_a0 U_a0 Q) := by
  refine KM_intro (lv := [(0, .ref (qh 0)), (1, .ref (qa0 0))]) false rfl (by decide) (Nat.le_of_ble_eq_true rfl) rfl (fun h => absurd h (by decide)) (fun v ws hq => by obtain ⟨S_h, T_h, rfl, rfl, _⟩ := hq; exact Or.inl ⟨rfl, rfl⟩) (fun A K C => ?_)
  refine k_aload_n C dX5_become_0 1 rfl rfl 1 rfl ?_
  refine k_ifnonnull C dX5_become_1 5 (by decide) ?_
  refine k_aload_n C dX5_become_5 0 rfl rfl 6 rfl ?_
  refine k_aload_n C dX5_become_6 1 rfl rfl 7 rfl ?_
  refine k_get C dX5_become_7 9 rfl (ci := 5) rfl hin_X5_become_5 0 (by decide) (List.mem_of_getElem? (i := 1) rfl) rfl 10 rfl ?_
  refine k_put C dX5_become_10 0 rfl (ci := 5) rfl hin_X5_become_5 tyX5_ok nmX5 0 (by decide) (List.mem_of_getElem? (i := 1) rfl) rfl rfl rfl (Nat.le_of_ble_eq_true rfl) ((wdW cI cJ cZ qh (S_a0.1, S_h.2.1, S_h.2.2.1, S_h.2.2.2.1, S_h.2.2.2.2) T_h U_h) ++ (wdW cI cJ cZ qa0 S_a0 T_a0 U_a0)) rfl 13 rfl ?_
  refine k_aload_n C dX5_become_13 0 rfl rfl 14 rfl ?_
  refine k_aload_n C dX5_become_14 1 rfl rfl 15 rfl ?_
  refine k_get C dX5_become_15 9 rfl (ci := 5) rfl hin_X5_become_5 1 (by decide) (List.mem_of_getElem? (i := 2) rfl) rfl 18 rfl ?_
  refine k_put C dX5_become_18 0 rfl (ci := 5) rfl hin_X5_become_5 tyX5_ok nmX5 1 (by decide) (List.mem_of_getElem? (i := 2) rfl) rfl rfl rfl (Nat.le_of_ble_eq_true rfl) ((wdW cI cJ cZ qh (S_a0.1, S_a0.2.1, S_h.2.2.1, S_h.2.2.2.1, S_h.2.2.2.2) T_h U_h) ++ (wdW cI cJ cZ qa0 S_a0 T_a0 U_a0)) rfl 21 rfl ?_
  refine k_aload_n C dX5_become_21 0 rfl rfl 22 rfl ?_
  refine k_aload_n C dX5_become_22 1 rfl rfl 23 rfl ?_
  refine k_get C dX5_become_23 9 rfl (ci := 5) rfl hin_X5_become_5 2 (by decide) (List.mem_of_getElem? (i := 3) rfl) rfl 26 rfl ?_
  refine k_put C dX5_become_26 0 rfl (ci := 5) rfl hin_X5_become_5 tyX5_ok nmX5 2 (by decide) (List.mem_of_getElem? (i := 3) rfl) rfl rfl rfl (Nat.le_of_ble_eq_true rfl) ((wdW cI cJ cZ qh (S_a0.1, S_a0.2.1, S_h.2.2.1, S_h.2.2.2.1, S_h.2.2.2.2) (T_a0.1, T_h.2.1, T_h.2.2.1, T_h.2.2.2.1, T_h.2.2.2.2) U_h) ++ (wdW cI cJ cZ qa0 S_a0 T_a0 U_a0)) rfl 29 rfl ?_
  refine k_aload_n C dX5_become_29 1 rfl rfl 30 rfl ?_
  refine k_get C dX5_become_30 9 rfl (ci := 5) rfl hin_X5_become_5 3 (by decide) (List.mem_of_getElem? (i := 4) rfl) rfl 33 rfl ?_
  refine k_aload_n C dX5_become_33 0 rfl rfl 34 rfl ?_
  refine k_get C dX5_become_34 0 rfl (ci := 5) rfl hin_X5_become_5 3 (by decide) (List.mem_of_getElem? (i := 4) rfl) rfl 37 rfl ?_
  have hM := c_X6_copy (l := l) (D := D) (cI := cI) (cJ := cJ) (cZ := cZ) (qa0 1) (qh 1) 10 (by decide) 10 (by decide) S_a0.2.2.1 S_h.2.2.1 _ h
  refine k_callNS C dX5_become_37 hM gX5_become_X6_copy_n51 (List.mem_of_getElem? (i := 36) rfl) (List.mem_of_getElem? (i := 12) rfl) rfl sg_X6_copy (List.mem_of_getElem? (i := 11) rfl) rfl (Nat.le_of_ble_eq_true rfl) ⟨⟨rfl, rfl⟩, by decide, by decide⟩ ⟨Nat.le_refl 0, Nat.le_refl 0⟩ [10, 1] [0, 2, 3, 4, 5, 6, 7, 8, 9, 11, 12, 13, 14, 15, 16, 17] rfl rfl rfl rfl (by decide) 0 0 ⟨rfl, rfl⟩ 40 rfl (fun v w1 hq37 => ?_)
  obtain ⟨f_a1_37, rfl, rfl, h⟩ := hq37
  refine k_perm C [0, 17, 1, 2, 3, 4, 5, 6, 7, 8, 16, 9, 10, 11, 12, 13, 14, 15] [] ((wdW cI cJ cZ qh (S_a0.1, S_a0.2.1, f_a1_37, S_h.2.2.2.1, S_h.2.2.2.2) (T_a0.1, T_h.2.1, T_h.2.2.1, T_h.2.2.2.1, T_h.2.2.2.2) U_h) ++ (wdW cI cJ cZ qa0 S_a0 T_a0 U_a0)) rfl rfl rfl ?_
  refine k_aload_n C dX5_become_40 1 rfl rfl 41 rfl ?_
  refine k_get C dX5_become_41 9 rfl (ci := 5) rfl hin_X5_become_5 4 (by decide) (List.mem_of_getElem? (i := 5) rfl) rfl 44 rfl ?_
  refine k_aload_n C dX5_become_44 0 rfl rfl 45 rfl ?_
  refine k_get C dX5_become_45 0 rfl (ci := 5) rfl hin_X5_become_5 4 (by decide) (List.mem_of_getElem? (i := 5) rfl) rfl 48 rfl ?_
  have hM := c_X6_copy (l := l) (D := D) (cI := cI) (cJ := cJ) (cZ := cZ) (qa0 2) (qh 2) 10 (by decide) 10 (by decide) S_a0.2.2.2.1 S_h.2.2.2.1 _ h
  refine k_callNS C dX5_become_48 hM gX5_become_X6_copy_n51 (List.mem_of_getElem? (i := 36) rfl) (List.mem_of_getElem? (i := 12) rfl) rfl sg_X6_copy (List.mem_of_getElem? (i := 11) rfl) rfl (Nat.le_of_ble_eq_true rfl) ⟨⟨rfl, rfl⟩, by decide, by decide⟩ ⟨Nat.le_refl 0, Nat.le_refl 0⟩ [11, 2] [0, 1, 3, 4, 5, 6, 7, 8, 9, 10, 12, 13, 14, 15, 16, 17] rfl rfl rfl rfl (by decide) 0 0 ⟨rfl, rfl⟩ 51 rfl (fun v w1 hq48 => ?_)
  obtain ⟨f_a1_48, rfl, rfl, h⟩ := hq48
  refine k_perm C [0, 1, 17, 2, 3, 4, 5, 6, 7, 8, 9, 16, 10, 11, 12, 13, 14, 15] [] ((wdW cI cJ cZ qh (S_a0.1, S_a0.2.1, f_a1_37, f_a1_48, S_h.2.2.2.2) (T_a0.1, T_h.2.1, T_h.2.2.1, T_h.2.2.2.1, T_h.2.2.2.2) U_h) ++ (wdW cI cJ cZ qa0 S_a0 T_a0 U_a0)) rfl rfl rfl ?_
  refine k_aload_n C dX5_become_51 1 rfl rfl 52 rfl ?_
  refine k_get C dX5_become_52 9 rfl (ci := 5) rfl hin_X5_become_5 5 (by decide) (List.mem_of_getElem? (i := 6) rfl) rfl 55 rfl ?_
  refine k_aload_n C dX5_become_55 0 rfl rfl 56 rfl ?_
  refine k_get C dX5_become_56 0 rfl (ci := 5) rfl hin_X5_become_5 5 (by decide) (List.mem_of_getElem? (i := 6) rfl) rfl 59 rfl ?_
  have hM := c_X6_copy (l := l) (D := D) (cI := cI) (cJ := cJ) (cZ := cZ) (qa0 3) (qh 3) 10 (by decide) 10 (by decide) S_a0.2.2.2.2 S_h.2.2.2.2 _ h
  refine k_callNS C dX5_become_59 hM gX5_become_X6_copy_n51 (List.mem_of_getElem? (i := 36) rfl) (List.mem_of_getElem? (i := 12) rfl) rfl sg_X6_copy (List.mem_of_getElem? (i := 11) rfl) rfl (Nat.le_of_ble_eq_true rfl) ⟨⟨rfl, rfl⟩, by decide, by decide⟩ ⟨Nat.le_refl 0, Nat.le_refl 0⟩ [12, 3] [0, 1, 2, 4, 5, 6, 7, 8, 9, 10, 11, 13, 14, 15, 16, 17] rfl rfl rfl rfl (by decide) 0 0 ⟨rfl, rfl⟩ 62 rfl (fun v w1 hq59 => ?_)
  obtain ⟨f_a1_59, rfl, rfl, h⟩ := hq59
  refine k_perm C [0, 1, 2, 17, 3, 4, 5, 6, 7, 8, 9, 10, 16, 11, 12, 13, 14, 15] [] ((wdW cI cJ cZ qh (S_a0.1, S_a0.2.1, f_a1_37, f_a1_48, f_a1_59) (T_a0.1, T_h.2.1, T_h.2.2.1, T_h.2.2.2.1, T_h.2.2.2.2) U_h) ++ (wdW cI cJ cZ qa0 S_a0 T_a0 U_a0)) rfl rfl rfl ?_
  refine k_aload_n C dX5_become_62 1 rfl rfl 63 rfl ?_
  refine k_get C dX5_become_63 9 rfl (ci := 5) rfl hin_X5_become_5 6 (by decide) (List.mem_of_getElem? (i := 7) rfl) rfl 66 rfl ?_
  refine k_aload_n C dX5_become_66 0 rfl rfl 67 rfl ?_
  refine k_get C dX5_become_67 0 rfl (ci := 5) rfl hin_X5_become_5 6 (by decide) (List.mem_of_getElem? (i := 7) rfl) rfl 70 rfl ?_
  have hM := c_X6_copy (l := l) (D := D) (cI := cI) (cJ := cJ) (cZ := cZ) (qa0 4) (qh 4) 10 (by decide) 10 (by decide) T_a0.2.1 T_h.2.1 _ h
  refine k_callNS C dX5_become_70 hM gX5_become_X6_copy_n51 (List.mem_of_getElem? (i := 36) rfl) (List.mem_of_getElem? (i := 12) rfl) rfl sg_X6_copy (List.mem_of_getElem? (i := 11) rfl) rfl (Nat.le_of_ble_eq_true rfl) ⟨⟨rfl, rfl⟩, by decide, by decide⟩ ⟨Nat.le_refl 0, Nat.le_refl 0⟩ [13, 4] [0, 1, 2, 3, 5, 6, 7, 8, 9, 10, 11, 12, 14, 15, 16, 17] rfl rfl rfl rfl (by decide) 0 0 ⟨rfl, rfl⟩ 73 rfl (fun v w1 hq70 => ?_)
  obtain ⟨f_a1_70, rfl, rfl, h⟩ := hq70
  refine k_perm C [0, 1, 2, 3, 17, 4, 5, 6, 7, 8, 9, 10, 11, 16, 12, 13, 14, 15] [] ((wdW cI cJ cZ qh (S_a0.1, S_a0.2.1, f_a1_37, f_a1_48, f_a1_59) (T_a0.1, f_a1_70, T_h.2.2.1, T_h.2.2.2.1, T_h.2.2.2.2) U_h) ++ (wdW cI cJ cZ qa0 S_a0 T_a0 U_a0)) rfl rfl rfl ?_
  refine k_aload_n C dX5_become_73 1 rfl rfl 74 rfl ?_
  refine k_get C dX5_become_74 9 rfl (ci := 5) rfl hin_X5_become_5 7 (by decide) (List.mem_of_getElem? (i := 8) rfl) rfl 77 rfl ?_
  refine k_aload_n C dX5_become_77 0 rfl rfl 78 rfl ?_
  refine k_get C dX5_become_78 0 rfl (ci := 5) rfl hin_X5_become_5 7 (by decide) (List.mem_of_getElem? (i := 8) rfl) rfl 81 rfl ?_
  have hM := c_X6_copy (l := l) (D := D) (cI := cI) (cJ := cJ) (cZ := cZ) (qa0 5) (qh 5) 10 (by decide) 10 (by decide) T_a0.2.2.1 T_h.2.2.1 _ h
  refine k_callNS C dX5_become_81 hM gX5_become_X6_copy_n51 (List.mem_of_getElem? (i := 36) rfl) (List.mem_of_getElem? (i := 12) rfl) rfl sg_X6_copy (List.mem_of_getElem? (i := 11) rfl) rfl (Nat.le_of_ble_eq_true rfl) ⟨⟨rfl, rfl⟩, by decide, by decide⟩ ⟨Nat.le_refl 0, Nat.le_refl 0⟩ [14, 5] [0, 1, 2, 3, 4, 6, 7, 8, 9, 10, 11, 12, 13, 15, 16, 17] rfl rfl rfl rfl (by decide) 0 0 ⟨rfl, rfl⟩ 84 rfl (fun v w1 hq81 => ?_)
  obtain ⟨f_a1_81, rfl, rfl, h⟩ := hq81
  refine k_perm C [0, 1, 2, 3, 4, 17, 5, 6, 7, 8, 9, 10, 11, 12, 16, 13, 14, 15] [] ((wdW cI cJ cZ qh (S_a0.1, S_a0.2.1, f_a1_37, f_a1_48, f_a1_59) (T_a0.1, f_a1_70, f_a1_81, T_h.2.2.2.1, T_h.2.2.2.2) U_h) ++ (wdW cI cJ cZ qa0 S_a0 T_a0 U_a0)) rfl rfl rfl ?_
  refine k_aload_n C dX5_become_84 1 rfl rfl 85 rfl ?_
  refine k_get C dX5_become_85 9 rfl (ci := 5) rfl hin_X5_become_5 8 (by decide) (List.mem_of_getElem? (i := 9) rfl) rfl 88 rfl ?_
  refine k_aload_n C dX5_become_88 0 rfl rfl 89 rfl ?_
  refine k_get C dX5_become_89 0 rfl (ci := 5) rfl hin_X5_become_5 8 (by decide) (List.mem_of_getElem? (i := 9) rfl) rfl 92 rfl ?_
  have hM := c_X6_copy (l := l) (D := D) (cI := cI) (cJ := cJ) (cZ := cZ) (qa0 6) (qh 6) 90 (by decide) 90 (by decide) T_a0.2.2.2.1 T_h.2.2.2.1 _ h
  refine k_callNS C dX5_become_92 hM gX5_become_X6_copy_n51 (List.mem_of_getElem? (i := 36) rfl) (List.mem_of_getElem? (i := 12) rfl) rfl sg_X6_copy (List.mem_of_getElem? (i := 11) rfl) rfl (Nat.le_of_ble_eq_true rfl) ⟨⟨rfl, rfl⟩, by decide, by decide⟩ ⟨Nat.le_refl 0, Nat.le_refl 0⟩ [15, 6] [0, 1, 2, 3, 4, 5, 7, 8, 9, 10, 11, 12, 13, 14, 16, 17] rfl rfl rfl rfl (by decide) 0 0 ⟨rfl, rfl⟩ 95 rfl (fun v w1 hq92 => ?_)
  obtain ⟨f_a1_92, rfl, rfl, h⟩ := hq92
  refine k_perm C [0, 1, 2, 3, 4, 5, 17, 6, 7, 8, 9, 10, 11, 12, 13, 16, 14, 15] [] ((wdW cI cJ cZ qh (S_a0.1, S_a0.2.1, f_a1_37, f_a1_48, f_a1_59) (T_a0.1, f_a1_70, f_a1_81, f_a1_92, T_h.2.2.2.2) U_h) ++ (wdW cI cJ cZ qa0 S_a0 T_a0 U_a0)) rfl rfl rfl ?_
  refine k_aload_n C dX5_become_95 1 rfl rfl 96 rfl ?_
  refine k_get C dX5_become_96 9 rfl (ci := 5) rfl hin_X5_become_5 9 (by decide) (List.mem_of_getElem? (i := 10) rfl) rfl 99 rfl ?_
  refine k_aload_n C dX5_become_99 0 rfl rfl 100 rfl ?_
  refine k_get C dX5_become_100 0 rfl (ci := 5) rfl hin_X5_become_5 9 (by decide) (List.mem_of_getElem? (i := 10) rfl) rfl 103 rfl ?_
  have hM := c_X6_copy (l := l) (D := D) (cI := cI) (cJ := cJ) (cZ := cZ) (qa0 7) (qh 7) 9 (by decide) 9 (by decide) T_a0.2.2.2.2 T_h.2.2.2.2 _ h
  refine k_callNS C dX5_become_103 hM gX5_become_X6_copy_n51 (List.mem_of_getElem? (i := 36) rfl) (List.mem_of_getElem? (i := 12) rfl) rfl sg_X6_copy (List.mem_of_getElem? (i := 11) rfl) rfl (Nat.le_of_ble_eq_true rfl) ⟨⟨rfl, rfl⟩, by decide, by decide⟩ ⟨Nat.le_refl 0, Nat.le_refl 0⟩ [16, 7] [0, 1, 2, 3, 4, 5, 6, 8, 9, 10, 11, 12, 13, 14, 15, 17] rfl rfl rfl rfl (by decide) 0 0 ⟨rfl, rfl⟩ 106 rfl (fun v w1 hq103 => ?_)
  obtain ⟨f_a1_103, rfl, rfl, h⟩ := hq103
  refine k_perm C [0, 1, 2, 3, 4, 5, 6, 17, 7, 8, 9, 10, 11, 12, 13, 14, 16, 15] [] ((wdW cI cJ cZ qh (S_a0.1, S_a0.2.1, f_a1_37, f_a1_48, f_a1_59) (T_a0.1, f_a1_70, f_a1_81, f_a1_92, f_a1_103) U_h) ++ (wdW cI cJ cZ qa0 S_a0 T_a0 U_a0)) rfl rfl rfl ?_
  exact k_vret C dX5_become_106 ⟨(S_a0.1, S_a0.2.1, f_a1_37, f_a1_48, f_a1_59), (T_a0.1, f_a1_70, f_a1_81, f_a1_92, f_a1_103), rfl, rfl, h⟩

/-! X5_give -/
abbrev rm_X5_give : Room := { frames := 1, cells := 0, slots := 0, locals := 22 }
theorem sg_X5_give : yX5_give.cls ≠ "java/lang/invoke/MethodHandle" ∧ yX5_give.cls ≠ "java/lang/invoke/VarHandle" ∧ (parseMethodDescriptor yX5_give.desc).map (fun d => d.parameters.length) = some 4 := by decide +kernel
theorem hin_X5_give_5 : ∀ w ∈ wsX50, w ∈ wsX5_give := fun _ h => List.mem_cons_of_mem _ (List.mem_append_right _ h)
def rp_X5_give (cI cJ cZ : ClassId) (qh : Nat → Nat) (T_h : gWT) (U_h : gWU) (Q : gWS → Prop) : Option Value → va_W → Prop := fun v w1 => ∃ (S_h : gWS), v = none ∧ w1 = (wdW cI cJ cZ qh S_h T_h U_h) ∧ Q S_h
def wp_X5_give (S_h : gWS) (x1 : Int) (x2 : Int) (x3 : Int) (x4 : Int) (Q : gWS → Prop) : Prop :=
    wp_X6_set 10 S_h.2.2.1 x1 x2 (fun (f_a0_18 : Int → Int) => wp_X6_set 10 S_h.2.2.2.1 x1 x3 (fun (f_a0_27 : Int → Int) => wp_X6_set 10 S_h.2.2.2.2 x1 x4 (fun (f_a0_37 : Int → Int) => Q (S_h.1, ior S_h.2.1 (ishl 1 x1), f_a0_18, f_a0_27, f_a0_37))))

set_option maxHeartbeats 4000000 in
set_option maxRecDepth 20000 in
theorem c_X5_give {l : Launch} {D : va_G} {cI cJ cZ : ClassId} (qh : Nat → Nat) (S_h : gWS) (T_h : gWT) (U_h : gWU) (x1 : Int) (x2 : Int) (x3 : Int) (x4 : Int) (Q : gWS → Prop) (h : wp_X5_give S_h x1 x2 x3 x4 Q) : KM l D (kT cI cJ cZ) 0 0 yX5_give wsX5_give rm_X5_give [.ref (qh 0), .int (iI x1), .int (iI x2), .int (iI x3), .int (iI x4)] ((wdW cI cJ cZ qh S_h T_h U_h)) (rp_X5_give cI cJ cZ qh T_h U_h Q) := by
  refine KM_intro (lv := [(0, .ref (qh 0)), (1, .int (iI x1)), (2, .int (iI x2)), (3, .int (iI x3)), (4, .int (iI x4))]) false rfl (by decide) (Nat.le_of_ble_eq_true rfl) rfl (fun h => absurd h (by decide)) (fun v ws hq => by obtain ⟨S_h, rfl, rfl, _⟩ := hq; exact Or.inl ⟨rfl, rfl⟩) (fun A K C => ?_)
  refine k_aload_n C dX5_give_0 0 rfl rfl 1 rfl ?_
  refine k_dup C dX5_give_1 rfl 2 rfl ?_
  refine k_get C dX5_give_2 0 rfl (ci := 5) rfl hin_X5_give_5 1 (by decide) (List.mem_of_getElem? (i := 1) rfl) rfl 5 rfl ?_
  refine k_iconst C dX5_give_5 6 rfl ?_
  refine k_iload_n C dX5_give_6 1 rfl rfl 7 rfl ?_
  refine k_ishl C dX5_give_7 8 rfl ?_
  refine k_ior C dX5_give_8 9 rfl ?_
  refine k_put C dX5_give_9 0 rfl (ci := 5) rfl hin_X5_give_5 tyX5_ok nmX5 1 (by decide) (List.mem_of_getElem? (i := 1) rfl) rfl rfl rfl (Nat.le_of_ble_eq_true rfl) ((wdW cI cJ cZ qh (S_h.1, ior S_h.2.1 (ishl 1 x1), S_h.2.2.1, S_h.2.2.2.1, S_h.2.2.2.2) T_h U_h)) rfl 12 rfl ?_
  refine k_aload_n C dX5_give_12 0 rfl rfl 13 rfl ?_
  refine k_get C dX5_give_13 0 rfl (ci := 5) rfl hin_X5_give_5 3 (by decide) (List.mem_of_getElem? (i := 2) rfl) rfl 16 rfl ?_
  refine k_iload_n C dX5_give_16 1 rfl rfl 17 rfl ?_
  refine k_iload_n C dX5_give_17 2 rfl rfl 18 rfl ?_
  have hM := c_X6_set (l := l) (D := D) (cI := cI) (cJ := cJ) (cZ := cZ) (qh 1) 10 (by decide) S_h.2.2.1 x1 x2 _ h
  refine k_callNS C dX5_give_18 hM gX5_give_X6_set_n55 (List.mem_of_getElem? (i := 33) rfl) (List.mem_of_getElem? (i := 6) rfl) rfl sg_X6_set (List.mem_of_getElem? (i := 5) rfl) rfl (Nat.le_of_ble_eq_true rfl) ⟨⟨rfl, rfl⟩, by decide, by decide⟩ ⟨Nat.le_refl 0, Nat.le_refl 0⟩ [1] [0, 2, 3, 4, 5, 6, 7, 8] rfl rfl rfl rfl (by decide) 0 0 ⟨rfl, rfl⟩ 21 rfl (fun v w1 hq18 => ?_)
  obtain ⟨f_a0_18, rfl, rfl, h⟩ := hq18
  refine k_perm C [0, 8, 1, 2, 3, 4, 5, 6, 7] [] ((wdW cI cJ cZ qh (S_h.1, ior S_h.2.1 (ishl 1 x1), f_a0_18, S_h.2.2.2.1, S_h.2.2.2.2) T_h U_h)) rfl rfl rfl ?_
  refine k_aload_n C dX5_give_21 0 rfl rfl 22 rfl ?_
  refine k_get C dX5_give_22 0 rfl (ci := 5) rfl hin_X5_give_5 4 (by decide) (List.mem_of_getElem? (i := 3) rfl) rfl 25 rfl ?_
  refine k_iload_n C dX5_give_25 1 rfl rfl 26 rfl ?_
  refine k_iload_n C dX5_give_26 3 rfl rfl 27 rfl ?_
  have hM := c_X6_set (l := l) (D := D) (cI := cI) (cJ := cJ) (cZ := cZ) (qh 2) 10 (by decide) S_h.2.2.2.1 x1 x3 _ h
  refine k_callNS C dX5_give_27 hM gX5_give_X6_set_n55 (List.mem_of_getElem? (i := 33) rfl) (List.mem_of_getElem? (i := 6) rfl) rfl sg_X6_set (List.mem_of_getElem? (i := 5) rfl) rfl (Nat.le_of_ble_eq_true rfl) ⟨⟨rfl, rfl⟩, by decide, by decide⟩ ⟨Nat.le_refl 0, Nat.le_refl 0⟩ [2] [0, 1, 3, 4, 5, 6, 7, 8] rfl rfl rfl rfl (by decide) 0 0 ⟨rfl, rfl⟩ 30 rfl (fun v w1 hq27 => ?_)
  obtain ⟨f_a0_27, rfl, rfl, h⟩ := hq27
  refine k_perm C [0, 1, 8, 2, 3, 4, 5, 6, 7] [] ((wdW cI cJ cZ qh (S_h.1, ior S_h.2.1 (ishl 1 x1), f_a0_18, f_a0_27, S_h.2.2.2.2) T_h U_h)) rfl rfl rfl ?_
  refine k_aload_n C dX5_give_30 0 rfl rfl 31 rfl ?_
  refine k_get C dX5_give_31 0 rfl (ci := 5) rfl hin_X5_give_5 5 (by decide) (List.mem_of_getElem? (i := 4) rfl) rfl 34 rfl ?_
  refine k_iload_n C dX5_give_34 1 rfl rfl 35 rfl ?_
  refine k_iload C dX5_give_35 4 rfl 37 rfl ?_
  have hM := c_X6_set (l := l) (D := D) (cI := cI) (cJ := cJ) (cZ := cZ) (qh 3) 10 (by decide) S_h.2.2.2.2 x1 x4 _ h
  refine k_callNS C dX5_give_37 hM gX5_give_X6_set_n55 (List.mem_of_getElem? (i := 33) rfl) (List.mem_of_getElem? (i := 6) rfl) rfl sg_X6_set (List.mem_of_getElem? (i := 5) rfl) rfl (Nat.le_of_ble_eq_true rfl) ⟨⟨rfl, rfl⟩, by decide, by decide⟩ ⟨Nat.le_refl 0, Nat.le_refl 0⟩ [3] [0, 1, 2, 4, 5, 6, 7, 8] rfl rfl rfl rfl (by decide) 0 0 ⟨rfl, rfl⟩ 40 rfl (fun v w1 hq37 => ?_)
  obtain ⟨f_a0_37, rfl, rfl, h⟩ := hq37
  refine k_perm C [0, 1, 2, 8, 3, 4, 5, 6, 7] [] ((wdW cI cJ cZ qh (S_h.1, ior S_h.2.1 (ishl 1 x1), f_a0_18, f_a0_27, f_a0_37) T_h U_h)) rfl rfl rfl ?_
  exact k_vret C dX5_give_40 ⟨(S_h.1, ior S_h.2.1 (ishl 1 x1), f_a0_18, f_a0_27, f_a0_37), rfl, rfl, h⟩

/-! X6_hasBit -/
abbrev rm_X6_hasBit : Room := { frames := 0, cells := 0, slots := 0, locals := 0 }
theorem sg_X6_hasBit : yX6_hasBit.cls ≠ "java/lang/invoke/MethodHandle" ∧ yX6_hasBit.cls ≠ "java/lang/invoke/VarHandle" ∧ (parseMethodDescriptor yX6_hasBit.desc).map (fun d => d.parameters.length) = some 2 := by decide +kernel
def rp_X6_hasBit (cI cJ cZ : ClassId) (Q : Int → Prop) : Option Value → va_W → Prop := fun v w1 => ∃ (r : Int), v = some (.int (iI r)) ∧ w1 = ([] : va_W) ∧ (r = 0 ∨ r = 1) ∧ Q r
def wp_X6_hasBit (x0 : Int) (x1 : Int) (Q : Int → Prop) : Prop :=
    rI x1 ∧ ((x1 < 0 → Q 0) ∧ (¬ (x1 < 0) → ((10 ≤ x1 → Q 0) ∧ (¬ (10 ≤ x1) → rI (iand (ishr x0 x1) 1) ∧ ((¬ (iand (ishr x0 x1) 1) = 1 → Q 0) ∧ (¬ (¬ (iand (ishr x0 x1) 1) = 1) → Q 1))))))

set_option maxHeartbeats 4000000 in
set_option maxRecDepth 20000 in
theorem c_X6_hasBit {l : Launch} {D : va_G} {cI cJ cZ : ClassId} (x0 : Int) (x1 : Int) (Q : Int → Prop) (h : wp_X6_hasBit x0 x1 Q) : KM l D (kT cI cJ cZ) 0 0 yX6_hasBit wsX6_hasBit rm_X6_hasBit [.int (iI x0), .int (iI x1)] (([] : va_W)) (rp_X6_hasBit cI cJ cZ Q) := by
  refine KM_intro (lv := [(0, .int (iI x0)), (1, .int (iI x1))]) false rfl (by decide) (Nat.le_of_ble_eq_true rfl) rfl (fun h => absurd h (by decide)) (fun v ws hq => by obtain ⟨r, rfl, rfl, hb, _⟩ := hq; exact Or.inr (Or.inr (Or.inl ⟨rfl, by rcases hb with rfl | rfl; exact Or.inl rfl; exact Or.inr rfl⟩))) (fun A K C => ?_)
  refine k_iload_n C dX6_hasBit_0 1 rfl rfl 1 rfl ?_
  obtain ⟨hr1a, h⟩ := h
  obtain ⟨ht, hf⟩ := h
  refine k_if_lt C dX6_hasBit_1 hr1a 23 4 (by decide) rfl (fun hc1 => ?_) (fun hc1 => ?_)
  · have h := ht hc1; clear ht hf
    refine k_iconst C dX6_hasBit_23 24 rfl ?_
    exact k_iret C dX6_hasBit_24 ⟨0, rfl, rfl, (by decide), h⟩
  · have h := hf hc1; clear ht hf
    refine k_iload_n C dX6_hasBit_4 1 rfl rfl 5 rfl ?_
    refine k_bipush C dX6_hasBit_5 (by decide) 7 rfl ?_
    obtain ⟨ht, hf⟩ := h
    refine k_icmp_ge C dX6_hasBit_7 ⟨hr1a, (by decide)⟩ 23 10 (by decide) rfl (fun hc7 => ?_) (fun hc7 => ?_)
    · have h := ht hc7; clear ht hf
      refine k_iconst C dX6_hasBit_23 24 rfl ?_
      exact k_iret C dX6_hasBit_24 ⟨0, rfl, rfl, (by decide), h⟩
    · have h := hf hc7; clear ht hf
      refine k_iload_n C dX6_hasBit_10 0 rfl rfl 11 rfl ?_
      refine k_iload_n C dX6_hasBit_11 1 rfl rfl 12 rfl ?_
      refine k_ishr C dX6_hasBit_12 13 rfl ?_
      refine k_iconst C dX6_hasBit_13 14 rfl ?_
      refine k_iand C dX6_hasBit_14 15 rfl ?_
      refine k_iconst C dX6_hasBit_15 16 rfl ?_
      obtain ⟨hr16a, h⟩ := h
      obtain ⟨ht, hf⟩ := h
      refine k_icmp_ne C dX6_hasBit_16 ⟨hr16a, (by decide)⟩ 23 19 (by decide) rfl (fun hc16 => ?_) (fun hc16 => ?_)
      · have h := ht hc16; clear ht hf
        refine k_iconst C dX6_hasBit_23 24 rfl ?_
        exact k_iret C dX6_hasBit_24 ⟨0, rfl, rfl, (by decide), h⟩
      · have h := hf hc16; clear ht hf
        refine k_iconst C dX6_hasBit_19 20 rfl ?_
        refine k_goto C dX6_hasBit_20 24 (by decide) ?_
        exact k_iret C dX6_hasBit_24 ⟨1, rfl, rfl, (by decide), h⟩

/-! X5_isGiven -/
abbrev rm_X5_isGiven : Room := { frames := 1, cells := 0, slots := 0, locals := 21 }
theorem sg_X5_isGiven : yX5_isGiven.cls ≠ "java/lang/invoke/MethodHandle" ∧ yX5_isGiven.cls ≠ "java/lang/invoke/VarHandle" ∧ (parseMethodDescriptor yX5_isGiven.desc).map (fun d => d.parameters.length) = some 1 := by decide +kernel
theorem hin_X5_isGiven_5 : ∀ w ∈ wsX50, w ∈ wsX5_isGiven := fun _ h => List.mem_cons_of_mem _ (List.mem_append_right _ h)
def rp_X5_isGiven (cI cJ cZ : ClassId) (qh : Nat → Nat) (S_h : gWS) (T_h : gWT) (U_h : gWU) (Q : Int → Prop) : Option Value → va_W → Prop := fun v w1 => ∃ (r : Int), v = some (.int (iI r)) ∧ w1 = (wdW cI cJ cZ qh S_h T_h U_h) ∧ (r = 0 ∨ r = 1) ∧ Q r
def wp_X5_isGiven (S_h : gWS) (x1 : Int) (Q : Int → Prop) : Prop :=
    wp_X6_hasBit S_h.2.1 x1 (fun (r5 : Int) => Q r5)

set_option maxHeartbeats 4000000 in
set_option maxRecDepth 20000 in
theorem c_X5_isGiven {l : Launch} {D : va_G} {cI cJ cZ : ClassId} (qh : Nat → Nat) (S_h : gWS) (T_h : gWT) (U_h : gWU) (x1 : Int) (Q : Int → Prop) (h : wp_X5_isGiven S_h x1 Q) : KM l D (kT cI cJ cZ) 0 0 yX5_isGiven wsX5_isGiven rm_X5_isGiven [.ref (qh 0), .int (iI x1)] ((wdW cI cJ cZ qh S_h T_h U_h)) (rp_X5_isGiven cI cJ cZ qh S_h T_h U_h Q) := by
  refine KM_intro (lv := [(0, .ref (qh 0)), (1, .int (iI x1))]) false rfl (by decide) (Nat.le_of_ble_eq_true rfl) rfl (fun h => absurd h (by decide)) (fun v ws hq => by obtain ⟨r, rfl, rfl, hb, _⟩ := hq; exact Or.inr (Or.inr (Or.inl ⟨rfl, by rcases hb with rfl | rfl; exact Or.inl rfl; exact Or.inr rfl⟩))) (fun A K C => ?_)
  refine k_aload_n C dX5_isGiven_0 0 rfl rfl 1 rfl ?_
  refine k_get C dX5_isGiven_1 0 rfl (ci := 5) rfl hin_X5_isGiven_5 1 (by decide) (List.mem_of_getElem? (i := 1) rfl) rfl 4 rfl ?_
  refine k_iload_n C dX5_isGiven_4 1 rfl rfl 5 rfl ?_
  have hM := c_X6_hasBit (l := l) (D := D) (cI := cI) (cJ := cJ) (cZ := cZ) S_h.2.1 x1 _ h
  refine k_callNS C dX5_isGiven_5 hM gX5_isGiven_X6_hasBit_n59 (List.mem_of_getElem? (i := 32) rfl) (List.mem_of_getElem? (i := 3) rfl) rfl sg_X6_hasBit (List.mem_of_getElem? (i := 2) rfl) rfl (Nat.le_of_ble_eq_true rfl) ⟨⟨rfl, rfl⟩, by decide, by decide⟩ ⟨Nat.le_refl 0, Nat.le_refl 0⟩ [] [0, 1, 2, 3, 4, 5, 6, 7, 8] rfl rfl rfl rfl (by decide) 0 0 ⟨rfl, rfl⟩ 8 rfl (fun v w1 hq5 => ?_)
  obtain ⟨r5, rfl, rfl, hb5, h⟩ := hq5
  refine k_perm C [0, 1, 2, 3, 4, 5, 6, 7, 8] [.int (iI r5)] ((wdW cI cJ cZ qh S_h T_h U_h)) rfl rfl rfl ?_
  exact k_iret C dX5_isGiven_8 ⟨r5, rfl, rfl, hb5, h⟩

/-! X5_isLaid -/
abbrev rm_X5_isLaid : Room := { frames := 1, cells := 0, slots := 0, locals := 21 }
theorem sg_X5_isLaid : yX5_isLaid.cls ≠ "java/lang/invoke/MethodHandle" ∧ yX5_isLaid.cls ≠ "java/lang/invoke/VarHandle" ∧ (parseMethodDescriptor yX5_isLaid.desc).map (fun d => d.parameters.length) = some 1 := by decide +kernel
theorem hin_X5_isLaid_5 : ∀ w ∈ wsX50, w ∈ wsX5_isLaid := fun _ h => List.mem_cons_of_mem _ (List.mem_append_right _ h)
def rp_X5_isLaid (cI cJ cZ : ClassId) (qh : Nat → Nat) (S_h : gWS) (T_h : gWT) (U_h : gWU) (Q : Int → Prop) : Option Value → va_W → Prop := fun v w1 => ∃ (r : Int), v = some (.int (iI r)) ∧ w1 = (wdW cI cJ cZ qh S_h T_h U_h) ∧ (r = 0 ∨ r = 1) ∧ Q r
def wp_X5_isLaid (T_h : gWT) (x1 : Int) (Q : Int → Prop) : Prop :=
    wp_X6_hasBit T_h.1 x1 (fun (r5 : Int) => Q r5)

set_option maxHeartbeats 4000000 in
set_option maxRecDepth 20000 in
theorem c_X5_isLaid {l : Launch} {D : va_G} {cI cJ cZ : ClassId} (qh : Nat → Nat) (S_h : gWS) (T_h : gWT) (U_h : gWU) (x1 : Int) (Q : Int → Prop) (h : wp_X5_isLaid T_h x1 Q) : KM l D (kT cI cJ cZ) 0 0 yX5_isLaid wsX5_isLaid rm_X5_isLaid [.ref (qh 0), .int (iI x1)] ((wdW cI cJ cZ qh S_h T_h U_h)) (rp_X5_isLaid cI cJ cZ qh S_h T_h U_h Q) := by
  refine KM_intro (lv := [(0, .ref (qh 0)), (1, .int (iI x1))]) false rfl (by decide) (Nat.le_of_ble_eq_true rfl) rfl (fun h => absurd h (by decide)) (fun v ws hq => by obtain ⟨r, rfl, rfl, hb, _⟩ := hq; exact Or.inr (Or.inr (Or.inl ⟨rfl, by rcases hb with rfl | rfl; exact Or.inl rfl; exact Or.inr rfl⟩))) (fun A K C => ?_)
  refine k_aload_n C dX5_isLaid_0 0 rfl rfl 1 rfl ?_
  refine k_get C dX5_isLaid_1 0 rfl (ci := 5) rfl hin_X5_isLaid_5 2 (by decide) (List.mem_of_getElem? (i := 1) rfl) rfl 4 rfl ?_
  refine k_iload_n C dX5_isLaid_4 1 rfl rfl 5 rfl ?_
  have hM := c_X6_hasBit (l := l) (D := D) (cI := cI) (cJ := cJ) (cZ := cZ) T_h.1 x1 _ h
  refine k_callNS C dX5_isLaid_5 hM gX5_isLaid_X6_hasBit_n59 (List.mem_of_getElem? (i := 32) rfl) (List.mem_of_getElem? (i := 3) rfl) rfl sg_X6_hasBit (List.mem_of_getElem? (i := 2) rfl) rfl (Nat.le_of_ble_eq_true rfl) ⟨⟨rfl, rfl⟩, by decide, by decide⟩ ⟨Nat.le_refl 0, Nat.le_refl 0⟩ [] [0, 1, 2, 3, 4, 5, 6, 7, 8] rfl rfl rfl rfl (by decide) 0 0 ⟨rfl, rfl⟩ 8 rfl (fun v w1 hq5 => ?_)
  obtain ⟨r5, rfl, rfl, hb5, h⟩ := hq5
  refine k_perm C [0, 1, 2, 3, 4, 5, 6, 7, 8] [.int (iI r5)] ((wdW cI cJ cZ qh S_h T_h U_h)) rfl rfl rfl ?_
  exact k_iret C dX5_isLaid_8 ⟨r5, rfl, rfl, hb5, h⟩

/-! X5_freeGuests -/
abbrev rm_X5_freeGuests : Room := { frames := 0, cells := 0, slots := 0, locals := 0 }
theorem sg_X5_freeGuests : yX5_freeGuests.cls ≠ "java/lang/invoke/MethodHandle" ∧ yX5_freeGuests.cls ≠ "java/lang/invoke/VarHandle" ∧ (parseMethodDescriptor yX5_freeGuests.desc).map (fun d => d.parameters.length) = some 0 := by decide +kernel
theorem hin_X5_freeGuests_5 : ∀ w ∈ wsX50, w ∈ wsX5_freeGuests := fun _ h => List.mem_cons_of_mem _ (List.mem_append_right _ h)
def rp_X5_freeGuests (cI cJ cZ : ClassId) (qh : Nat → Nat) (S_h : gWS) (T_h : gWT) (U_h : gWU) (Q : Int → Prop) : Option Value → va_W → Prop := fun v w1 => ∃ (r : Int), v = some (.int (iI r)) ∧ w1 = (wdW cI cJ cZ qh S_h T_h U_h) ∧ Q r
def wp_X5_freeGuests (S_h : gWS) (T_h : gWT) (Q : Int → Prop) : Prop :=
    Q (iand S_h.2.1 (ixor T_h.1 (-1)))

set_option maxHeartbeats 4000000 in
set_option maxRecDepth 20000 in
theorem c_X5_freeGuests {l : Launch} {D : va_G} {cI cJ cZ : ClassId} (qh : Nat → Nat) (S_h : gWS) (T_h : gWT) (U_h : gWU) (Q : Int → Prop) (h : wp_X5_freeGuests S_h T_h Q) : KM l D (kT cI cJ cZ) 0 0 yX5_freeGuests wsX5_freeGuests rm_X5_freeGuests [.ref (qh 0)] ((wdW cI cJ cZ qh S_h T_h U_h)) (rp_X5_freeGuests cI cJ cZ qh S_h T_h U_h Q) := by
  refine KM_intro (lv := [(0, .ref (qh 0))]) false rfl (by decide) (Nat.le_of_ble_eq_true rfl) rfl (fun h => absurd h (by decide)) (fun v ws hq => by obtain ⟨r, rfl, rfl, _⟩ := hq; exact Or.inr (Or.inl ⟨rfl, _, rfl⟩)) (fun A K C => ?_)
  refine k_aload_n C dX5_freeGuests_0 0 rfl rfl 1 rfl ?_
  refine k_get C dX5_freeGuests_1 0 rfl (ci := 5) rfl hin_X5_freeGuests_5 1 (by decide) (List.mem_of_getElem? (i := 1) rfl) rfl 4 rfl ?_
  refine k_aload_n C dX5_freeGuests_4 0 rfl rfl 5 rfl ?_
  refine k_get C dX5_freeGuests_5 0 rfl (ci := 5) rfl hin_X5_freeGuests_5 2 (by decide) (List.mem_of_getElem? (i := 2) rfl) rfl 8 rfl ?_
  refine k_iconst C dX5_freeGuests_8 9 rfl ?_
  refine k_ixor C dX5_freeGuests_9 10 rfl ?_
  refine k_iand C dX5_freeGuests_10 11 rfl ?_
  exact k_iret C dX5_freeGuests_11 ⟨iand S_h.2.1 (ixor T_h.1 (-1)), rfl, rfl, h⟩

/-! X5_isFree -/
abbrev rm_X5_isFree : Room := { frames := 1, cells := 0, slots := 0, locals := 21 }
theorem sg_X5_isFree : yX5_isFree.cls ≠ "java/lang/invoke/MethodHandle" ∧ yX5_isFree.cls ≠ "java/lang/invoke/VarHandle" ∧ (parseMethodDescriptor yX5_isFree.desc).map (fun d => d.parameters.length) = some 1 := by decide +kernel
def rp_X5_isFree (cI cJ cZ : ClassId) (qh : Nat → Nat) (S_h : gWS) (T_h : gWT) (U_h : gWU) (Q : Int → Prop) : Option Value → va_W → Prop := fun v w1 => ∃ (r : Int), v = some (.int (iI r)) ∧ w1 = (wdW cI cJ cZ qh S_h T_h U_h) ∧ (r = 0 ∨ r = 1) ∧ Q r
def wp_X5_isFree (S_h : gWS) (T_h : gWT) (x1 : Int) (Q : Int → Prop) : Prop :=
    wp_X5_freeGuests S_h T_h (fun (r1 : Int) => wp_X6_hasBit r1 x1 (fun (r5 : Int) => Q r5))

set_option maxHeartbeats 4000000 in
set_option maxRecDepth 20000 in
theorem c_X5_isFree {l : Launch} {D : va_G} {cI cJ cZ : ClassId} (qh : Nat → Nat) (S_h : gWS) (T_h : gWT) (U_h : gWU) (x1 : Int) (Q : Int → Prop) (h : wp_X5_isFree S_h T_h x1 Q) : KM l D (kT cI cJ cZ) 0 0 yX5_isFree wsX5_isFree rm_X5_isFree [.ref (qh 0), .int (iI x1)] ((wdW cI cJ cZ qh S_h T_h U_h)) (rp_X5_isFree cI cJ cZ qh S_h T_h U_h Q) := by
  refine KM_intro (lv := [(0, .ref (qh 0)), (1, .int (iI x1))]) false rfl (by decide) (Nat.le_of_ble_eq_true rfl) rfl (fun h => absurd h (by decide)) (fun v ws hq => by obtain ⟨r, rfl, rfl, hb, _⟩ := hq; exact Or.inr (Or.inr (Or.inl ⟨rfl, by rcases hb with rfl | rfl; exact Or.inl rfl; exact Or.inr rfl⟩))) (fun A K C => ?_)
  refine k_aload_n C dX5_isFree_0 0 rfl rfl 1 rfl ?_
  have hM := c_X5_freeGuests (l := l) (D := D) (cI := cI) (cJ := cJ) (cZ := cZ) qh S_h T_h U_h _ h
  refine k_callV C dX5_isFree_1 hM gX5_isFree_X5_freeGuests rfl sg_X5_freeGuests 5 rfl rfl rfl (Nat.le_of_ble_eq_true rfl) ⟨⟨rfl, rfl⟩, by decide, by decide⟩ ⟨Nat.le_refl 0, Nat.le_refl 0⟩ [0, 1, 2, 3, 4, 5, 6, 7, 8] [] rfl rfl rfl rfl (by decide) 0 0 ⟨rfl, rfl⟩ 4 rfl (fun v w1 hq1 => ?_)
  obtain ⟨r1, rfl, rfl, h⟩ := hq1
  refine k_perm C [0, 1, 2, 3, 4, 5, 6, 7, 8] [.int (iI r1)] ((wdW cI cJ cZ qh S_h T_h U_h)) rfl rfl rfl ?_
  refine k_iload_n C dX5_isFree_4 1 rfl rfl 5 rfl ?_
  have hM := c_X6_hasBit (l := l) (D := D) (cI := cI) (cJ := cJ) (cZ := cZ) r1 x1 _ h
  refine k_callNS C dX5_isFree_5 hM gX5_isFree_X6_hasBit_n59 (List.mem_of_getElem? (i := 32) rfl) (List.mem_of_getElem? (i := 9) rfl) rfl sg_X6_hasBit (List.mem_of_getElem? (i := 8) rfl) rfl (Nat.le_of_ble_eq_true rfl) ⟨⟨rfl, rfl⟩, by decide, by decide⟩ ⟨Nat.le_refl 0, Nat.le_refl 0⟩ [] [0, 1, 2, 3, 4, 5, 6, 7, 8] rfl rfl rfl rfl (by decide) 0 0 ⟨rfl, rfl⟩ 8 rfl (fun v w1 hq5 => ?_)
  obtain ⟨r5, rfl, rfl, hb5, h⟩ := hq5
  refine k_perm C [0, 1, 2, 3, 4, 5, 6, 7, 8] [.int (iI r5)] ((wdW cI cJ cZ qh S_h T_h U_h)) rfl rfl rfl ?_
  exact k_iret C dX5_isFree_8 ⟨r5, rfl, rfl, hb5, h⟩
