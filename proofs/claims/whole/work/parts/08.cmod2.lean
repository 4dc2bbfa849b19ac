/-! X7_isOver -/
abbrev rm_X7_isOver : Room := { frames := 1, cells := 0, slots := 0, locals := 21 }
theorem sg_X7_isOver : yX7_isOver.cls ≠ "java/lang/invoke/MethodHandle" ∧ yX7_isOver.cls ≠ "java/lang/invoke/VarHandle" ∧ (parseMethodDescriptor yX7_isOver.desc).map (fun d => d.parameters.length) = some 1 := by decide +kernel
theorem hin_X7_isOver_7 : ∀ w ∈ wsX70, w ∈ wsX7_isOver := fun _ h => List.mem_cons_of_mem _ (List.mem_append_right _ h)
def rp_X7_isOver (cI cJ cZ : ClassId) (qh : Nat → Nat) (B_h : gMB) (P_h : gMP) (N_h : gMN) (L_h : gML) (E_h : gME) (V_h : gMV) (G_h : gMG) (D_h : gMD) (O_h : gMO) (Z_h : gMZ) (R_h : gMR) (I_h : gMI) (Q : Int → Prop) : Option Value → va_W → Prop := fun v w1 => ∃ (r : Int), v = some (.int (iI r)) ∧ w1 = (wdM cI cJ cZ qh B_h P_h N_h L_h E_h V_h G_h D_h O_h Z_h R_h I_h) ∧ (r = 0 ∨ r = 1) ∧ Q r
def wp_X7_isOver (B_h : gMB) (N_h : gMN) (L_h : gML) (x1 : Int) (Q : Int → Prop) : Prop :=
    wp_X7_isIn N_h x1 (fun (r2 : Int) => ((r2 = 0 → Q 0) ∧ (¬ (r2 = 0) → (0 ≤ x1 ∧ x1 < 10) ∧ rI (B_h.2.2.2.2 x1) ∧ rL (L_h x1) ∧ rL (60466176 * (B_h.2.2.2.2 x1)) ∧ (((L_h x1) ≤ (60466176 * (B_h.2.2.2.2 x1)) → Q 0) ∧ (¬ ((L_h x1) ≤ (60466176 * (B_h.2.2.2.2 x1))) → Q 1)))))

set_option maxHeartbeats 4000000 in
set_option maxRecDepth 20000 in
theorem c_X7_isOver {l : Launch} {D : va_G} {cI cJ cZ : ClassId} (qh : Nat → Nat) (B_h : gMB) (P_h : gMP) (N_h : gMN) (L_h : gML) (E_h : gME) (V_h : gMV) (G_h : gMG) (D_h : gMD) (O_h : gMO) (Z_h : gMZ) (R_h : gMR) (I_h : gMI) (x1 : Int) (Q : Int → Prop) (h : wp_X7_isOver B_h N_h L_h x1 Q) : KM l D (kT cI cJ cZ) 0 0 yX7_isOver wsX7_isOver rm_X7_isOver [.ref (qh 0), .int (iI x1)] ((wdM cI cJ cZ qh B_h P_h N_h L_h E_h V_h G_h D_h O_h Z_h R_h I_h)) (rp_X7_isOver cI cJ cZ qh B_h P_h N_h L_h E_h V_h G_h D_h O_h Z_h R_h I_h Q) := by
  refine KM_intro (lv := [(0, .ref (qh 0)), (1, .int (iI x1))]) false rfl (by decide) (Nat.le_of_ble_eq_true rfl) rfl (fun h => absurd h (by decide)) (fun v ws hq => by obtain ⟨r, rfl, rfl, hb, _⟩ := hq; exact Or.inr (Or.inr (Or.inl ⟨rfl, by rcases hb with rfl | rfl; exact Or.inl rfl; exact Or.inr rfl⟩))) (fun A K C => ?_)
  refine k_aload_n C dX7_isOver_0 0 rfl rfl 1 rfl ?_
  refine k_iload_n C dX7_isOver_1 1 rfl rfl 2 rfl ?_
  have hM := c_X7_isIn (l := l) (D := D) (cI := cI) (cJ := cJ) (cZ := cZ) qh B_h P_h N_h L_h E_h V_h G_h D_h O_h Z_h R_h I_h x1 _ h
  refine k_callV C dX7_isOver_2 hM gX7_isOver_X7_isIn rfl sg_X7_isIn 7 rfl rfl rfl (Nat.le_of_ble_eq_true rfl) ⟨⟨rfl, rfl⟩, by decide, by decide⟩ ⟨Nat.le_refl 0, Nat.le_refl 0⟩ [0, 1, 2, 3, 4, 5, 6, 7, 8, 9, 10, 11, 12, 13, 14, 15, 16] [] rfl rfl rfl rfl (by decide) 0 0 ⟨rfl, rfl⟩ 5 rfl (fun v w1 hq2 => ?_)
  obtain ⟨r2, rfl, rfl, hb2, h⟩ := hq2
  refine k_perm C [0, 1, 2, 3, 4, 5, 6, 7, 8, 9, 10, 11, 12, 13, 14, 15, 16] [.int (iI r2)] ((wdM cI cJ cZ qh B_h P_h N_h L_h E_h V_h G_h D_h O_h Z_h R_h I_h)) rfl rfl rfl ?_
  obtain ⟨ht, hf⟩ := h
  refine k_if_eq C dX7_isOver_5 (by rcases hb2 with rfl | rfl <;> decide) 33 8 (by decide) rfl (fun hc5 => ?_) (fun hc5 => ?_)
  · have h := ht hc5; clear ht hf
    refine k_iconst C dX7_isOver_33 34 rfl ?_
    exact k_iret C dX7_isOver_34 ⟨0, rfl, rfl, (by decide), h⟩
  · have h := hf hc5; clear ht hf
    refine k_aload_n C dX7_isOver_8 0 rfl rfl 9 rfl ?_
    refine k_get C dX7_isOver_9 0 rfl (ci := 7) rfl hin_X7_isOver_7 13 (by decide) (List.mem_of_getElem? (i := 1) rfl) rfl 12 rfl ?_
    refine k_iload_n C dX7_isOver_12 1 rfl rfl 13 rfl ?_
    obtain ⟨hi13, h⟩ := h
    refine k_laload C dX7_isOver_13 10 1 rfl rfl (by decide) hi13 14 rfl ?_
    refine k_ldc2 (v := 60466176) C dX7_isOver_14 (List.mem_of_getElem? (i := 2) rfl) (by decide) 17 rfl ?_
    refine k_aload_n C dX7_isOver_17 0 rfl rfl 18 rfl ?_
    refine k_get C dX7_isOver_18 0 rfl (ci := 7) rfl hin_X7_isOver_7 4 (by decide) (List.mem_of_getElem? (i := 3) rfl) rfl 21 rfl ?_
    refine k_iload_n C dX7_isOver_21 1 rfl rfl 22 rfl ?_
    refine k_iaload C dX7_isOver_22 3 0 rfl rfl (by decide) hi13 23 rfl ?_
    obtain ⟨hr23a, h⟩ := h
    refine k_i2l C dX7_isOver_23 hr23a 24 rfl ?_
    refine k_lmul C dX7_isOver_24 25 rfl ?_
    obtain ⟨hr25a, hr25b, h⟩ := h
    obtain ⟨ht, hf⟩ := h
    refine k_lcmp_le C dX7_isOver_25 dX7_isOver_26 ⟨hr25a, hr25b⟩ 33 29 (by decide) rfl (fun hc25 => ?_) (fun hc25 => ?_)
    · have h := ht hc25; clear ht hf
      refine k_iconst C dX7_isOver_33 34 rfl ?_
      exact k_iret C dX7_isOver_34 ⟨0, rfl, rfl, (by decide), h⟩
    · have h := hf hc25; clear ht hf
      refine k_iconst C dX7_isOver_29 30 rfl ?_
      refine k_goto C dX7_isOver_30 34 (by decide) ?_
      exact k_iret C dX7_isOver_34 ⟨1, rfl, rfl, (by decide), h⟩

/-! X7_take -/
abbrev rm_X7_take : Room := { frames := 0, cells := 0, slots := 0, locals := 0 }
theorem sg_X7_take : yX7_take.cls ≠ "java/lang/invoke/MethodHandle" ∧ yX7_take.cls ≠ "java/lang/invoke/VarHandle" ∧ (parseMethodDescriptor yX7_take.desc).map (fun d => d.parameters.length) = some 1 := by decide +kernel
theorem hin_X7_take_7 : ∀ w ∈ wsX70, w ∈ wsX7_take := fun _ h => List.mem_cons_of_mem _ (List.mem_append_right _ h)
def rp_X7_take (cI cJ cZ : ClassId) (qh : Nat → Nat) (B_h : gMB) (P_h : gMP) (L_h : gML) (E_h : gME) (V_h : gMV) (G_h : gMG) (D_h : gMD) (O_h : gMO) (Z_h : gMZ) (R_h : gMR) (I_h : gMI) (Q : gMN → Prop) : Option Value → va_W → Prop := fun v w1 => ∃ (N_h : gMN), v = none ∧ w1 = (wdM cI cJ cZ qh B_h P_h N_h L_h E_h V_h G_h D_h O_h Z_h R_h I_h) ∧ Q N_h
def wp_X7_take (N_h : gMN) (x1 : Int) (Q : gMN → Prop) : Prop :=
    (0 ≤ x1 ∧ x1 < 10) ∧ Q (aset N_h.1 x1 (-6), aset N_h.2 x1 (-6))

set_option maxHeartbeats 4000000 in
set_option maxRecDepth 20000 in
theorem c_X7_take {l : Launch} {D : va_G} {cI cJ cZ : ClassId} (qh : Nat → Nat) (B_h : gMB) (P_h : gMP) (N_h : gMN) (L_h : gML) (E_h : gME) (V_h : gMV) (G_h : gMG) (D_h : gMD) (O_h : gMO) (Z_h : gMZ) (R_h : gMR) (I_h : gMI) (x1 : Int) (Q : gMN → Prop) (h : wp_X7_take N_h x1 Q) : KM l D (kT cI cJ cZ) 0 0 yX7_take wsX7_take rm_X7_take [.ref (qh 0), .int (iI x1)] ((wdM cI cJ cZ qh B_h P_h N_h L_h E_h V_h G_h D_h O_h Z_h R_h I_h)) (rp_X7_take cI cJ cZ qh B_h P_h L_h E_h V_h G_h D_h O_h Z_h R_h I_h Q) := by
  refine KM_intro (lv := [(0, .ref (qh 0)), (1, .int (iI x1))]) false rfl (by decide) (Nat.le_of_ble_eq_true rfl) rfl (fun h => absurd h (by decide)) (fun v ws hq => by obtain ⟨N_h, rfl, rfl, _⟩ := hq; exact Or.inl ⟨rfl, rfl⟩) (fun A K C => ?_)
  refine k_aload_n C dX7_take_0 0 rfl rfl 1 rfl ?_
  refine k_get C dX7_take_1 0 rfl (ci := 7) rfl hin_X7_take_7 11 (by decide) (List.mem_of_getElem? (i := 1) rfl) rfl 4 rfl ?_
  refine k_iload_n C dX7_take_4 1 rfl rfl 5 rfl ?_
  refine k_bipush C dX7_take_5 (by decide) 7 rfl ?_
  obtain ⟨hi7, h⟩ := h
  refine k_iastore C dX7_take_7 8 0 rfl rfl (by decide) hi7 ((wdM cI cJ cZ qh B_h P_h (aset N_h.1 x1 (-6), N_h.2) L_h E_h V_h G_h D_h O_h Z_h R_h I_h)) rfl 8 rfl ?_
  refine k_aload_n C dX7_take_8 0 rfl rfl 9 rfl ?_
  refine k_get C dX7_take_9 0 rfl (ci := 7) rfl hin_X7_take_7 12 (by decide) (List.mem_of_getElem? (i := 2) rfl) rfl 12 rfl ?_
  refine k_iload_n C dX7_take_12 1 rfl rfl 13 rfl ?_
  refine k_bipush C dX7_take_13 (by decide) 15 rfl ?_
  refine k_iastore C dX7_take_15 9 0 rfl rfl (by decide) hi7 ((wdM cI cJ cZ qh B_h P_h (aset N_h.1 x1 (-6), aset N_h.2 x1 (-6)) L_h E_h V_h G_h D_h O_h Z_h R_h I_h)) rfl 16 rfl ?_
  exact k_vret C dX7_take_16 ⟨(aset N_h.1 x1 (-6), aset N_h.2 x1 (-6)), rfl, rfl, h⟩

/-! X7_put -/
abbrev rm_X7_put : Room := { frames := 5, cells := 0, slots := 0, locals := 116 }
theorem sg_X7_put : yX7_put.cls ≠ "java/lang/invoke/MethodHandle" ∧ yX7_put.cls ≠ "java/lang/invoke/VarHandle" ∧ (parseMethodDescriptor yX7_put.desc).map (fun d => d.parameters.length) = some 2 := by decide +kernel
theorem hin_X7_put_7 : ∀ w ∈ wsX70, w ∈ wsX7_put := fun _ h => List.mem_cons_of_mem _ (List.mem_append_right _ h)
def rp_X7_put (cI cJ cZ : ClassId) (qh : Nat → Nat) (B_h : gMB) (P_h : gMP) (E_h : gME) (V_h : gMV) (G_h : gMG) (D_h : gMD) (O_h : gMO) (Z_h : gMZ) (R_h : gMR) (I_h : gMI) (Q : Int → gMN → gML → Prop) : Option Value → va_W → Prop := fun v w1 => ∃ (r : Int) (N_h : gMN) (L_h : gML), v = some (.int (iI r)) ∧ w1 = (wdM cI cJ cZ qh B_h P_h N_h L_h E_h V_h G_h D_h O_h Z_h R_h I_h) ∧ Q r N_h L_h
def wp_X7_put_43 (B_h : gMB) (K_83 : Int → Int → Int → gMN → gML → Prop)  (Q : Int → gMN → gML → Prop) : Nat → Int → Int → Int → Int → gMN → gML → Prop
  | 0, _, _, _, _, _, _ => False
  | n43 + 1, x1, x2, x3, x4, N_h, L_h =>
    (0 ≤ x1 ∧ x1 < 10) ∧ rI x4 ∧ rI (x2 + (B_h.2.2.1 x1)) ∧ (((x2 + (B_h.2.2.1 x1)) ≤ x4 → K_83 x1 x2 x3 N_h L_h) ∧ (¬ ((x2 + (B_h.2.2.1 x1)) ≤ x4) → wp_X7_heightOf B_h N_h x4 (fun (r59 : Int) => rI r59 ∧ rI x3 ∧ ((r59 ≤ x3 → wp_X7_put_43 B_h K_83 Q n43 x1 x2 x3 (x4 + 1) N_h L_h) ∧ (¬ (r59 ≤ x3) → wp_X7_heightOf B_h N_h x4 (fun (r69 : Int) => wp_X7_put_43 B_h K_83 Q n43 x1 x2 r69 (x4 + 1) N_h L_h))))))
def wp_X7_put_119 (B_h : gMB) (K_153 : Int → Int → gMN → gML → Prop)  (Q : Int → gMN → gML → Prop) : Nat → Int → Int → Int → gMN → gML → Prop
  | 0, _, _, _, _, _ => False
  | n119 + 1, x1, x4, x5, N_h, L_h =>
    rI x5 ∧ ((10 ≤ x5 → K_153 x1 x4 N_h L_h) ∧ (¬ (10 ≤ x5) → rI x4 ∧ ((¬ x4 = 0 → K_153 x1 x4 N_h L_h) ∧ (¬ (¬ x4 = 0) → wp_X7_isOver B_h N_h L_h x5 (fun (r134 : Int) => ((r134 = 0 → wp_X7_put_119 B_h K_153 Q n119 x1 0 (x5 + 1) N_h L_h) ∧ (¬ (r134 = 0) → wp_X7_put_119 B_h K_153 Q n119 x1 4 (x5 + 1) N_h L_h)))))))
def wp_X7_put_153  (Q : Int → gMN → gML → Prop) (x1 : Int) (x4 : Int) (N_h : gMN) (L_h : gML) : Prop :=
    rI x4 ∧ ((x4 ≤ 0 → Q x4 N_h L_h) ∧ (¬ (x4 ≤ 0) → wp_X7_take N_h x1 (fun (N_h_160 : gMN) => Q x4 N_h_160 L_h)))
def wp_X7_put_110 (B_h : gMB)  (Q : Int → gMN → gML → Prop) (x1 : Int) (s0 : Int) (N_h : gMN) (L_h : gML) : Prop :=
    wp_X7_layLoads B_h N_h L_h (fun (L_h_113 : gML) => ∃ m119, wp_X7_put_119 B_h (fun (x1 : Int) (x4 : Int) (N_h : gMN) (L_h : gML) => wp_X7_put_153 Q x1 x4 N_h L_h) Q m119 x1 s0 0 N_h L_h_113)
def wp_X7_put (B_h : gMB) (N_h : gMN) (L_h : gML) (x1 : Int) (x2 : Int) (Q : Int → gMN → gML → Prop) : Prop :=
    wp_X7_has B_h.2.1 x1 (fun (r5 : Int) => ((r5 = 0 → Q 1 N_h L_h) ∧ (¬ (r5 = 0) → wp_X7_isIn N_h x1 (fun (r13 : Int) => ((r13 = 0 → (0 ≤ x1 ∧ x1 < 10) ∧ rI (x2 + (B_h.2.2.1 x1)) ∧ rI B_h.1 ∧ (((x2 + (B_h.2.2.1 x1)) ≤ B_h.1 → ∃ m43, wp_X7_put_43 B_h (fun (x1 : Int) (x2 : Int) (x3 : Int) (N_h : gMN) (L_h : gML) => (0 ≤ x1 ∧ x1 < 10) ∧ wp_X7_stands B_h (aset N_h.1 x1 x3, aset N_h.2 x1 x2) x1 (fun (r99 : Int) => ((r99 = 0 → wp_X7_put_110 B_h Q x1 3 (aset N_h.1 x1 x3, aset N_h.2 x1 x2) L_h) ∧ (¬ (r99 = 0) → wp_X7_put_110 B_h Q x1 0 (aset N_h.1 x1 x3, aset N_h.2 x1 x2) L_h)))) Q m43 x1 x2 0 x2 N_h L_h) ∧ (¬ ((x2 + (B_h.2.2.1 x1)) ≤ B_h.1) → Q 2 N_h L_h))) ∧ (¬ (r13 = 0) → Q 1 N_h L_h))))))
set_option maxHeartbeats 4000000 in
set_option maxRecDepth 20000 in
theorem w_X7_put_43 {l : Launch} {D : va_G} {cI cJ cZ : ClassId} {A : Nat → Prop} {K : KT} {qh : Nat → Nat} {B_h : gMB} {P_h : gMP} {E_h : gME} {V_h : gMV} {G_h : gMG} {D_h : gMD} {O_h : gMO} {Z_h : gMZ} {R_h : gMR} {I_h : gMI} {Q : Int → gMN → gML → Prop} {K_83 : Int → Int → Int → gMN → gML → Prop} (C : KC cX7_put yX7_put.cls wsX7_put rm_X7_put 6 D (kT cI cJ cZ) A l false (rp_X7_put cI cJ cZ qh B_h P_h E_h V_h G_h D_h O_h Z_h R_h I_h Q) 0 0 K) : ∀ (n : Nat) (x1 : Int) (x2 : Int) (x3 : Int) (x4 : Int) (N_h : gMN) (L_h : gML), wp_X7_put_43 B_h K_83 Q n x1 x2 x3 x4 N_h L_h → (∀ (x1 : Int) (x2 : Int) (x3 : Int) (N_h : gMN) (L_h : gML), K_83 x1 x2 x3 N_h L_h → K 0 0 83 [(0, .ref (qh 0)), (1, .int (iI x1)), (2, .int (iI x2)), (3, .int (iI x3))] [] ((wdM cI cJ cZ qh B_h P_h N_h L_h E_h V_h G_h D_h O_h Z_h R_h I_h))) → K 0 0 43 [(0, .ref (qh 0)), (1, .int (iI x1)), (2, .int (iI x2)), (3, .int (iI x3)), (4, .int (iI x4))] [] ((wdM cI cJ cZ qh B_h P_h N_h L_h E_h V_h G_h D_h O_h Z_h R_h I_h)) := by
  intro n
  induction n with
  | zero => intro x1 x2 x3 x4 N_h L_h h; exact h.elim
  | succ n ih =>
    intro x1 x2 x3 x4 N_h L_h h hK_83
    refine k_iload C dX7_put_43 4 rfl 45 rfl ?_
    refine k_iload_n C dX7_put_45 2 rfl rfl 46 rfl ?_
    refine k_aload_n C dX7_put_46 0 rfl rfl 47 rfl ?_
    refine k_get C dX7_put_47 0 rfl (ci := 7) rfl hin_X7_put_7 2 (by decide) (List.mem_of_getElem? (i := 2) rfl) rfl 50 rfl ?_
    refine k_iload_n C dX7_put_50 1 rfl rfl 51 rfl ?_
    obtain ⟨hi51, h⟩ := h
    refine k_iaload C dX7_put_51 1 0 rfl rfl (by decide) hi51 52 rfl ?_
    refine k_iadd C dX7_put_52 53 rfl ?_
    obtain ⟨hr53a, hr53b, h⟩ := h
    obtain ⟨ht, hf⟩ := h
    refine k_icmp_ge C dX7_put_53 ⟨hr53a, hr53b⟩ 83 56 (by decide) rfl (fun hc53 => ?_) (fun hc53 => ?_)
    · have h := ht hc53; clear ht hf
      refine k_lv C [0, 1, 2, 3] [(0, .ref (qh 0)), (1, .int (iI x1)), (2, .int (iI x2)), (3, .int (iI x3))] rfl ?_
      exact hK_83 x1 x2 x3 N_h L_h h
    · have h := hf hc53; clear ht hf
      refine k_aload_n C dX7_put_56 0 rfl rfl 57 rfl ?_
      refine k_iload C dX7_put_57 4 rfl 59 rfl ?_
      have hM := c_X7_heightOf (l := l) (D := D) (cI := cI) (cJ := cJ) (cZ := cZ) qh B_h P_h N_h L_h E_h V_h G_h D_h O_h Z_h R_h I_h x4 _ h
      refine k_callV C dX7_put_59 hM gX7_put_X7_heightOf rfl sg_X7_heightOf 7 rfl rfl rfl (Nat.le_of_ble_eq_true rfl) ⟨⟨rfl, rfl⟩, by decide, by decide⟩ ⟨Nat.le_refl 0, Nat.le_refl 0⟩ [0, 1, 2, 3, 4, 5, 6, 7, 8, 9, 10, 11, 12, 13, 14, 15, 16] [] rfl rfl rfl rfl (by decide) 0 0 ⟨rfl, rfl⟩ 62 rfl (fun v w1 hq59 => ?_)
      obtain ⟨r59, rfl, rfl, h⟩ := hq59
      refine k_perm C [0, 1, 2, 3, 4, 5, 6, 7, 8, 9, 10, 11, 12, 13, 14, 15, 16] [.int (iI r59)] ((wdM cI cJ cZ qh B_h P_h N_h L_h E_h V_h G_h D_h O_h Z_h R_h I_h)) rfl rfl rfl ?_
      refine k_iload_n C dX7_put_62 3 rfl rfl 63 rfl ?_
      obtain ⟨hr63a, hr63b, h⟩ := h
      obtain ⟨ht, hf⟩ := h
      refine k_icmp_le C dX7_put_63 ⟨hr63a, hr63b⟩ 75 66 (by decide) rfl (fun hc63 => ?_) (fun hc63 => ?_)
      · have h := ht hc63; clear ht hf
        refine k_iload_n C dX7_put_75 3 rfl rfl 76 rfl ?_
        refine k_istore_n C dX7_put_76 rfl (by decide) [(3, .int (iI x3)), (0, .ref (qh 0)), (1, .int (iI x1)), (2, .int (iI x2)), (4, .int (iI x4))] rfl 77 rfl ?_
        refine k_iinc (j := 4) C dX7_put_77 rfl (by decide) [(4, .int (iI (x4 + 1))), (3, .int (iI x3)), (0, .ref (qh 0)), (1, .int (iI x1)), (2, .int (iI x2))] rfl 80 rfl ?_
        refine k_goto C dX7_put_80 43 (by decide) ?_
        refine k_lv C [2, 3, 4, 1, 0] [(0, .ref (qh 0)), (1, .int (iI x1)), (2, .int (iI x2)), (3, .int (iI x3)), (4, .int (iI (x4 + 1)))] rfl ?_
        exact ih x1 x2 x3 (x4 + 1) N_h L_h h hK_83
      · have h := hf hc63; clear ht hf
        refine k_aload_n C dX7_put_66 0 rfl rfl 67 rfl ?_
        refine k_iload C dX7_put_67 4 rfl 69 rfl ?_
        have hM := c_X7_heightOf (l := l) (D := D) (cI := cI) (cJ := cJ) (cZ := cZ) qh B_h P_h N_h L_h E_h V_h G_h D_h O_h Z_h R_h I_h x4 _ h
        refine k_callV C dX7_put_69 hM gX7_put_X7_heightOf rfl sg_X7_heightOf 7 rfl rfl rfl (Nat.le_of_ble_eq_true rfl) ⟨⟨rfl, rfl⟩, by decide, by decide⟩ ⟨Nat.le_refl 0, Nat.le_refl 0⟩ [0, 1, 2, 3, 4, 5, 6, 7, 8, 9, 10, 11, 12, 13, 14, 15, 16] [] rfl rfl rfl rfl (by decide) 0 0 ⟨rfl, rfl⟩ 72 rfl (fun v w1 hq69 => ?_)
        obtain ⟨r69, rfl, rfl, h⟩ := hq69
        refine k_perm C [0, 1, 2, 3, 4, 5, 6, 7, 8, 9, 10, 11, 12, 13, 14, 15, 16] [.int (iI r69)] ((wdM cI cJ cZ qh B_h P_h N_h L_h E_h V_h G_h D_h O_h Z_h R_h I_h)) rfl rfl rfl ?_
        refine k_goto C dX7_put_72 76 (by decide) ?_
        refine k_istore_n C dX7_put_76 rfl (by decide) [(3, .int (iI r69)), (0, .ref (qh 0)), (1, .int (iI x1)), (2, .int (iI x2)), (4, .int (iI x4))] rfl 77 rfl ?_
        refine k_iinc (j := 4) C dX7_put_77 rfl (by decide) [(4, .int (iI (x4 + 1))), (3, .int (iI r69)), (0, .ref (qh 0)), (1, .int (iI x1)), (2, .int (iI x2))] rfl 80 rfl ?_
        refine k_goto C dX7_put_80 43 (by decide) ?_
        refine k_lv C [2, 3, 4, 1, 0] [(0, .ref (qh 0)), (1, .int (iI x1)), (2, .int (iI x2)), (3, .int (iI r69)), (4, .int (iI (x4 + 1)))] rfl ?_
        exact ih x1 x2 r69 (x4 + 1) N_h L_h h hK_83
set_option maxHeartbeats 4000000 in
set_option maxRecDepth 20000 in
theorem w_X7_put_119 {l : Launch} {D : va_G} {cI cJ cZ : ClassId} {A : Nat → Prop} {K : KT} {qh : Nat → Nat} {B_h : gMB} {P_h : gMP} {E_h : gME} {V_h : gMV} {G_h : gMG} {D_h : gMD} {O_h : gMO} {Z_h : gMZ} {R_h : gMR} {I_h : gMI} {Q : Int → gMN → gML → Prop} {K_153 : Int → Int → gMN → gML → Prop} (C : KC cX7_put yX7_put.cls wsX7_put rm_X7_put 6 D (kT cI cJ cZ) A l false (rp_X7_put cI cJ cZ qh B_h P_h E_h V_h G_h D_h O_h Z_h R_h I_h Q) 0 0 K) : ∀ (n : Nat) (x1 : Int) (x4 : Int) (x5 : Int) (N_h : gMN) (L_h : gML), wp_X7_put_119 B_h K_153 Q n x1 x4 x5 N_h L_h → (∀ (x1 : Int) (x4 : Int) (N_h : gMN) (L_h : gML), K_153 x1 x4 N_h L_h → K 0 0 153 [(0, .ref (qh 0)), (1, .int (iI x1)), (4, .int (iI x4))] [] ((wdM cI cJ cZ qh B_h P_h N_h L_h E_h V_h G_h D_h O_h Z_h R_h I_h))) → K 0 0 119 [(0, .ref (qh 0)), (1, .int (iI x1)), (4, .int (iI x4)), (5, .int (iI x5))] [] ((wdM cI cJ cZ qh B_h P_h N_h L_h E_h V_h G_h D_h O_h Z_h R_h I_h)) := by
  intro n
  induction n with
  | zero => intro x1 x4 x5 N_h L_h h; exact h.elim
  | succ n ih =>
    intro x1 x4 x5 N_h L_h h hK_153
    refine k_iload C dX7_put_119 3 rfl 121 rfl ?_
    refine k_bipush C dX7_put_121 (by decide) 123 rfl ?_
    obtain ⟨hr123a, h⟩ := h
    obtain ⟨ht, hf⟩ := h
    refine k_icmp_ge C dX7_put_123 ⟨hr123a, (by decide)⟩ 153 126 (by decide) rfl (fun hc123 => ?_) (fun hc123 => ?_)
    · have h := ht hc123; clear ht hf
      refine k_lv C [0, 1, 2] [(0, .ref (qh 0)), (1, .int (iI x1)), (4, .int (iI x4))] rfl ?_
      exact hK_153 x1 x4 N_h L_h h
    · have h := hf hc123; clear ht hf
      refine k_iload C dX7_put_126 2 rfl 128 rfl ?_
      obtain ⟨hr128a, h⟩ := h
      obtain ⟨ht, hf⟩ := h
      refine k_if_ne C dX7_put_128 hr128a 153 131 (by decide) rfl (fun hc128 => ?_) (fun hc128 => ?_)
      · have h := ht hc128; clear ht hf
        refine k_lv C [0, 1, 2] [(0, .ref (qh 0)), (1, .int (iI x1)), (4, .int (iI x4))] rfl ?_
        exact hK_153 x1 x4 N_h L_h h
      · have h := hf hc128; clear ht hf
        refine k_aload_n C dX7_put_131 0 rfl rfl 132 rfl ?_
        refine k_iload C dX7_put_132 3 rfl 134 rfl ?_
        have hM := c_X7_isOver (l := l) (D := D) (cI := cI) (cJ := cJ) (cZ := cZ) qh B_h P_h N_h L_h E_h V_h G_h D_h O_h Z_h R_h I_h x5 _ h
        refine k_callV C dX7_put_134 hM gX7_put_X7_isOver rfl sg_X7_isOver 7 rfl rfl rfl (Nat.le_of_ble_eq_true rfl) ⟨⟨rfl, rfl⟩, by decide, by decide⟩ ⟨Nat.le_refl 0, Nat.le_refl 0⟩ [0, 1, 2, 3, 4, 5, 6, 7, 8, 9, 10, 11, 12, 13, 14, 15, 16] [] rfl rfl rfl rfl (by decide) 0 0 ⟨rfl, rfl⟩ 137 rfl (fun v w1 hq134 => ?_)
        obtain ⟨r134, rfl, rfl, hb134, h⟩ := hq134
        refine k_perm C [0, 1, 2, 3, 4, 5, 6, 7, 8, 9, 10, 11, 12, 13, 14, 15, 16] [.int (iI r134)] ((wdM cI cJ cZ qh B_h P_h N_h L_h E_h V_h G_h D_h O_h Z_h R_h I_h)) rfl rfl rfl ?_
        obtain ⟨ht, hf⟩ := h
        refine k_if_eq C dX7_put_137 (by rcases hb134 with rfl | rfl <;> decide) 144 140 (by decide) rfl (fun hc137 => ?_) (fun hc137 => ?_)
        · have h := ht hc137; clear ht hf
          refine k_iconst C dX7_put_144 145 rfl ?_
          refine k_istore C dX7_put_145 (by decide) [(4, .int (iI 0)), (0, .ref (qh 0)), (1, .int (iI x1)), (5, .int (iI x5))] rfl 147 rfl ?_
          refine k_iinc (j := 3) C dX7_put_147 rfl (by decide) [(5, .int (iI (x5 + 1))), (4, .int (iI 0)), (0, .ref (qh 0)), (1, .int (iI x1))] rfl 150 rfl ?_
          refine k_goto C dX7_put_150 119 (by decide) ?_
          refine k_lv C [2, 3, 1, 0] [(0, .ref (qh 0)), (1, .int (iI x1)), (4, .int (iI 0)), (5, .int (iI (x5 + 1)))] rfl ?_
          exact ih x1 0 (x5 + 1) N_h L_h h hK_153
        · have h := hf hc137; clear ht hf
          refine k_iconst C dX7_put_140 141 rfl ?_
          refine k_goto C dX7_put_141 145 (by decide) ?_
          refine k_istore C dX7_put_145 (by decide) [(4, .int (iI 4)), (0, .ref (qh 0)), (1, .int (iI x1)), (5, .int (iI x5))] rfl 147 rfl ?_
          refine k_iinc (j := 3) C dX7_put_147 rfl (by decide) [(5, .int (iI (x5 + 1))), (4, .int (iI 4)), (0, .ref (qh 0)), (1, .int (iI x1))] rfl 150 rfl ?_
          refine k_goto C dX7_put_150 119 (by decide) ?_
          refine k_lv C [2, 3, 1, 0] [(0, .ref (qh 0)), (1, .int (iI x1)), (4, .int (iI 4)), (5, .int (iI (x5 + 1)))] rfl ?_
          exact ih x1 4 (x5 + 1) N_h L_h h hK_153
set_option maxHeartbeats 4000000 in
set_option maxRecDepth 20000 in
theorem w_X7_put_153 {l : Launch} {D : va_G} {cI cJ cZ : ClassId} {A : Nat → Prop} {K : KT} {qh : Nat → Nat} {B_h : gMB} {P_h : gMP} {E_h : gME} {V_h : gMV} {G_h : gMG} {D_h : gMD} {O_h : gMO} {Z_h : gMZ} {R_h : gMR} {I_h : gMI} {Q : Int → gMN → gML → Prop} (C : KC cX7_put yX7_put.cls wsX7_put rm_X7_put 6 D (kT cI cJ cZ) A l false (rp_X7_put cI cJ cZ qh B_h P_h E_h V_h G_h D_h O_h Z_h R_h I_h Q) 0 0 K) : ∀ (x1 : Int) (x4 : Int) (N_h : gMN) (L_h : gML), wp_X7_put_153 Q x1 x4 N_h L_h → K 0 0 153 [(0, .ref (qh 0)), (1, .int (iI x1)), (4, .int (iI x4))] [] ((wdM cI cJ cZ qh B_h P_h N_h L_h E_h V_h G_h D_h O_h Z_h R_h I_h)) := by
  intro x1 x4 N_h L_h h 
  refine k_iload C dX7_put_153 2 rfl 155 rfl ?_
  obtain ⟨hr155a, h⟩ := h
  obtain ⟨ht, hf⟩ := h
  refine k_if_le C dX7_put_155 hr155a 163 158 (by decide) rfl (fun hc155 => ?_) (fun hc155 => ?_)
  · have h := ht hc155; clear ht hf
    refine k_iload C dX7_put_163 2 rfl 165 rfl ?_
    exact k_iret C dX7_put_165 ⟨x4, N_h, L_h, rfl, rfl, h⟩
  · have h := hf hc155; clear ht hf
    refine k_aload_n C dX7_put_158 0 rfl rfl 159 rfl ?_
    refine k_iload_n C dX7_put_159 1 rfl rfl 160 rfl ?_
    have hM := c_X7_take (l := l) (D := D) (cI := cI) (cJ := cJ) (cZ := cZ) qh B_h P_h N_h L_h E_h V_h G_h D_h O_h Z_h R_h I_h x1 _ h
    refine k_callV C dX7_put_160 hM gX7_put_X7_take rfl sg_X7_take 7 rfl rfl rfl (Nat.le_of_ble_eq_true rfl) ⟨⟨rfl, rfl⟩, by decide, by decide⟩ ⟨Nat.le_refl 0, Nat.le_refl 0⟩ [0, 1, 2, 3, 4, 5, 6, 7, 8, 9, 10, 11, 12, 13, 14, 15, 16] [] rfl rfl rfl rfl (by decide) 0 0 ⟨rfl, rfl⟩ 163 rfl (fun v w1 hq160 => ?_)
    obtain ⟨N_h_160, rfl, rfl, h⟩ := hq160
    refine k_perm C [0, 1, 2, 3, 4, 5, 6, 7, 8, 9, 10, 11, 12, 13, 14, 15, 16] [] ((wdM cI cJ cZ qh B_h P_h N_h_160 L_h E_h V_h G_h D_h O_h Z_h R_h I_h)) rfl rfl rfl ?_
    refine k_iload C dX7_put_163 2 rfl 165 rfl ?_
    exact k_iret C dX7_put_165 ⟨x4, N_h_160, L_h, rfl, rfl, h⟩
set_option maxHeartbeats 4000000 in
set_option maxRecDepth 20000 in
theorem w_X7_put_110 {l : Launch} {D : va_G} {cI cJ cZ : ClassId} {A : Nat → Prop} {K : KT} {qh : Nat → Nat} {B_h : gMB} {P_h : gMP} {E_h : gME} {V_h : gMV} {G_h : gMG} {D_h : gMD} {O_h : gMO} {Z_h : gMZ} {R_h : gMR} {I_h : gMI} {Q : Int → gMN → gML → Prop} (C : KC cX7_put yX7_put.cls wsX7_put rm_X7_put 6 D (kT cI cJ cZ) A l false (rp_X7_put cI cJ cZ qh B_h P_h E_h V_h G_h D_h O_h Z_h R_h I_h Q) 0 0 K) : ∀ (x1 : Int) (s0 : Int) (N_h : gMN) (L_h : gML), wp_X7_put_110 B_h Q x1 s0 N_h L_h → K 0 0 110 [(0, .ref (qh 0)), (1, .int (iI x1))] [.int (iI s0)] ((wdM cI cJ cZ qh B_h P_h N_h L_h E_h V_h G_h D_h O_h Z_h R_h I_h)) := by
  intro x1 s0 N_h L_h h 
  refine k_istore C dX7_put_110 (by decide) [(4, .int (iI s0)), (0, .ref (qh 0)), (1, .int (iI x1))] rfl 112 rfl ?_
  refine k_aload_n C dX7_put_112 1 rfl rfl 113 rfl ?_
  have hM := c_X7_layLoads (l := l) (D := D) (cI := cI) (cJ := cJ) (cZ := cZ) qh B_h P_h N_h L_h E_h V_h G_h D_h O_h Z_h R_h I_h _ h
  refine k_callV C dX7_put_113 hM gX7_put_X7_layLoads rfl sg_X7_layLoads 7 rfl rfl rfl (Nat.le_of_ble_eq_true rfl) ⟨⟨rfl, rfl⟩, by decide, by decide⟩ ⟨Nat.le_refl 0, Nat.le_refl 0⟩ [0, 1, 2, 3, 4, 5, 6, 7, 8, 9, 10, 11, 12, 13, 14, 15, 16] [] rfl rfl rfl rfl (by decide) 0 0 ⟨rfl, rfl⟩ 116 rfl (fun v w1 hq113 => ?_)
  obtain ⟨L_h_113, rfl, rfl, h⟩ := hq113
  refine k_perm C [0, 1, 2, 3, 4, 5, 6, 7, 8, 9, 10, 11, 12, 13, 14, 15, 16] [] ((wdM cI cJ cZ qh B_h P_h N_h L_h_113 E_h V_h G_h D_h O_h Z_h R_h I_h)) rfl rfl rfl ?_
  refine k_iconst C dX7_put_116 117 rfl ?_
  refine k_istore C dX7_put_117 (by decide) [(5, .int (iI 0)), (4, .int (iI s0)), (0, .ref (qh 0)), (1, .int (iI x1))] rfl 119 rfl ?_
  refine k_lv C [2, 3, 1, 0] [(0, .ref (qh 0)), (1, .int (iI x1)), (4, .int (iI s0)), (5, .int (iI 0))] rfl ?_
  obtain ⟨m119, h⟩ := h
  refine w_X7_put_119 C m119 x1 s0 0 N_h L_h_113 h (fun x1 x4 N_h L_h h => ?_)
  · refine w_X7_put_153 C x1 x4 N_h L_h h
set_option maxHeartbeats 4000000 in
set_option maxRecDepth 20000 in
theorem c_X7_put {l : Launch} {D : va_G} {cI cJ cZ : ClassId} (qh : Nat → Nat) (B_h : gMB) (P_h : gMP) (N_h : gMN) (L_h : gML) (E_h : gME) (V_h : gMV) (G_h : gMG) (D_h : gMD) (O_h : gMO) (Z_h : gMZ) (R_h : gMR) (I_h : gMI) (x1 : Int) (x2 : Int) (Q : Int → gMN → gML → Prop) (h : wp_X7_put B_h N_h L_h x1 x2 Q) : KM l D (kT cI cJ cZ) 0 0 yX7_put wsX7_put rm_X7_put [.ref (qh 0), .int (iI x1), .int (iI x2)] ((wdM cI cJ cZ qh B_h P_h N_h L_h E_h V_h G_h D_h O_h Z_h R_h I_h)) (rp_X7_put cI cJ cZ qh B_h P_h E_h V_h G_h D_h O_h Z_h R_h I_h Q) := by
  refine KM_intro (lv := [(0, .ref (qh 0)), (1, .int (iI x1)), (2, .int (iI x2))]) false rfl (by decide) (Nat.le_of_ble_eq_true rfl) rfl (fun h => absurd h (by decide)) (fun v ws hq => by obtain ⟨r, N_h, L_h, rfl, rfl, _⟩ := hq; exact Or.inr (Or.inl ⟨rfl, _, rfl⟩)) (fun A K C => ?_)
  refine k_aload_n C dX7_put_0 0 rfl rfl 1 rfl ?_
  refine k_get C dX7_put_1 0 rfl (ci := 7) rfl hin_X7_put_7 1 (by decide) (List.mem_of_getElem? (i := 1) rfl) rfl 4 rfl ?_
  refine k_iload_n C dX7_put_4 1 rfl rfl 5 rfl ?_
  have hM := c_X7_has (l := l) (D := D) (cI := cI) (cJ := cJ) (cZ := cZ) B_h.2.1 x1 _ h
  refine k_callS C dX7_put_5 hM gX7_put_X7_has rfl sg_X7_has rfl (Nat.le_of_ble_eq_true rfl) ⟨⟨rfl, rfl⟩, by decide, by decide⟩ ⟨Nat.le_refl 0, Nat.le_refl 0⟩ [] [0, 1, 2, 3, 4, 5, 6, 7, 8, 9, 10, 11, 12, 13, 14, 15, 16] rfl rfl rfl rfl (by decide) 0 0 ⟨rfl, rfl⟩ 8 rfl (fun v w1 hq5 => ?_)
  obtain ⟨r5, rfl, rfl, hb5, h⟩ := hq5
  refine k_perm C [0, 1, 2, 3, 4, 5, 6, 7, 8, 9, 10, 11, 12, 13, 14, 15, 16] [.int (iI r5)] ((wdM cI cJ cZ qh B_h P_h N_h L_h E_h V_h G_h D_h O_h Z_h R_h I_h)) rfl rfl rfl ?_
  obtain ⟨ht, hf⟩ := h
  refine k_if_eq C dX7_put_8 (by rcases hb5 with rfl | rfl <;> decide) 19 11 (by decide) rfl (fun hc8 => ?_) (fun hc8 => ?_)
  · have h := ht hc8; clear ht hf
    refine k_iconst C dX7_put_19 20 rfl ?_
    exact k_iret C dX7_put_20 ⟨1, N_h, L_h, rfl, rfl, h⟩
  · have h := hf hc8; clear ht hf
    refine k_aload_n C dX7_put_11 0 rfl rfl 12 rfl ?_
    refine k_iload_n C dX7_put_12 1 rfl rfl 13 rfl ?_
    have hM := c_X7_isIn (l := l) (D := D) (cI := cI) (cJ := cJ) (cZ := cZ) qh B_h P_h N_h L_h E_h V_h G_h D_h O_h Z_h R_h I_h x1 _ h
    refine k_callV C dX7_put_13 hM gX7_put_X7_isIn rfl sg_X7_isIn 7 rfl rfl rfl (Nat.le_of_ble_eq_true rfl) ⟨⟨rfl, rfl⟩, by decide, by decide⟩ ⟨Nat.le_refl 0, Nat.le_refl 0⟩ [0, 1, 2, 3, 4, 5, 6, 7, 8, 9, 10, 11, 12, 13, 14, 15, 16] [] rfl rfl rfl rfl (by decide) 0 0 ⟨rfl, rfl⟩ 16 rfl (fun v w1 hq13 => ?_)
    obtain ⟨r13, rfl, rfl, hb13, h⟩ := hq13
    refine k_perm C [0, 1, 2, 3, 4, 5, 6, 7, 8, 9, 10, 11, 12, 13, 14, 15, 16] [.int (iI r13)] ((wdM cI cJ cZ qh B_h P_h N_h L_h E_h V_h G_h D_h O_h Z_h R_h I_h)) rfl rfl rfl ?_
    obtain ⟨ht, hf⟩ := h
    refine k_if_eq C dX7_put_16 (by rcases hb13 with rfl | rfl <;> decide) 21 19 (by decide) rfl (fun hc16 => ?_) (fun hc16 => ?_)
    · have h := ht hc16; clear ht hf
      refine k_iload_n C dX7_put_21 2 rfl rfl 22 rfl ?_
      refine k_aload_n C dX7_put_22 0 rfl rfl 23 rfl ?_
      refine k_get C dX7_put_23 0 rfl (ci := 7) rfl hin_X7_put_7 2 (by decide) (List.mem_of_getElem? (i := 2) rfl) rfl 26 rfl ?_
      refine k_iload_n C dX7_put_26 1 rfl rfl 27 rfl ?_
      obtain ⟨hi27, h⟩ := h
      refine k_iaload C dX7_put_27 1 0 rfl rfl (by decide) hi27 28 rfl ?_
      refine k_iadd C dX7_put_28 29 rfl ?_
      refine k_aload_n C dX7_put_29 0 rfl rfl 30 rfl ?_
      refine k_get C dX7_put_30 0 rfl (ci := 7) rfl hin_X7_put_7 0 (by decide) (List.mem_of_getElem? (i := 3) rfl) rfl 33 rfl ?_
      obtain ⟨hr33a, hr33b, h⟩ := h
      obtain ⟨ht, hf⟩ := h
      refine k_icmp_le C dX7_put_33 ⟨hr33a, hr33b⟩ 38 36 (by decide) rfl (fun hc33 => ?_) (fun hc33 => ?_)
      · have h := ht hc33; clear ht hf
        refine k_iconst C dX7_put_38 39 rfl ?_
        refine k_istore_n C dX7_put_39 rfl (by decide) [(3, .int (iI 0)), (0, .ref (qh 0)), (1, .int (iI x1)), (2, .int (iI x2))] rfl 40 rfl ?_
        refine k_iload_n C dX7_put_40 3 rfl rfl 41 rfl ?_
        refine k_istore C dX7_put_41 (by decide) [(4, .int (iI x2)), (3, .int (iI 0)), (0, .ref (qh 0)), (1, .int (iI x1)), (2, .int (iI x2))] rfl 43 rfl ?_
        refine k_lv C [2, 3, 4, 1, 0] [(0, .ref (qh 0)), (1, .int (iI x1)), (2, .int (iI x2)), (3, .int (iI 0)), (4, .int (iI x2))] rfl ?_
        obtain ⟨m43, h⟩ := h
        refine w_X7_put_43 C m43 x1 x2 0 x2 N_h L_h h (fun x1 x2 x3 N_h L_h h => ?_)
        · refine k_aload_n C dX7_put_83 0 rfl rfl 84 rfl ?_
          refine k_get C dX7_put_84 0 rfl (ci := 7) rfl hin_X7_put_7 11 (by decide) (List.mem_of_getElem? (i := 4) rfl) rfl 87 rfl ?_
          refine k_iload_n C dX7_put_87 1 rfl rfl 88 rfl ?_
          refine k_iload_n C dX7_put_88 3 rfl rfl 89 rfl ?_
          obtain ⟨hi89, h⟩ := h
          refine k_iastore C dX7_put_89 8 0 rfl rfl (by decide) hi89 ((wdM cI cJ cZ qh B_h P_h (aset N_h.1 x1 x3, N_h.2) L_h E_h V_h G_h D_h O_h Z_h R_h I_h)) rfl 90 rfl ?_
          refine k_aload_n C dX7_put_90 0 rfl rfl 91 rfl ?_
          refine k_get C dX7_put_91 0 rfl (ci := 7) rfl hin_X7_put_7 12 (by decide) (List.mem_of_getElem? (i := 5) rfl) rfl 94 rfl ?_
          refine k_iload_n C dX7_put_94 1 rfl rfl 95 rfl ?_
          refine k_iload_n C dX7_put_95 2 rfl rfl 96 rfl ?_
          refine k_iastore C dX7_put_96 9 0 rfl rfl (by decide) hi89 ((wdM cI cJ cZ qh B_h P_h (aset N_h.1 x1 x3, aset N_h.2 x1 x2) L_h E_h V_h G_h D_h O_h Z_h R_h I_h)) rfl 97 rfl ?_
          refine k_aload_n C dX7_put_97 0 rfl rfl 98 rfl ?_
          refine k_iload_n C dX7_put_98 1 rfl rfl 99 rfl ?_
          have hM := c_X7_stands (l := l) (D := D) (cI := cI) (cJ := cJ) (cZ := cZ) qh B_h P_h (aset N_h.1 x1 x3, aset N_h.2 x1 x2) L_h E_h V_h G_h D_h O_h Z_h R_h I_h x1 _ h
          refine k_callV C dX7_put_99 hM gX7_put_X7_stands rfl sg_X7_stands 7 rfl rfl rfl (Nat.le_of_ble_eq_true rfl) ⟨⟨rfl, rfl⟩, by decide, by decide⟩ ⟨Nat.le_refl 0, Nat.le_refl 0⟩ [0, 1, 2, 3, 4, 5, 6, 7, 8, 9, 10, 11, 12, 13, 14, 15, 16] [] rfl rfl rfl rfl (by decide) 0 0 ⟨rfl, rfl⟩ 102 rfl (fun v w1 hq99 => ?_)
          obtain ⟨r99, rfl, rfl, hb99, h⟩ := hq99
          refine k_perm C [0, 1, 2, 3, 4, 5, 6, 7, 8, 9, 10, 11, 12, 13, 14, 15, 16] [.int (iI r99)] ((wdM cI cJ cZ qh B_h P_h (aset N_h.1 x1 x3, aset N_h.2 x1 x2) L_h E_h V_h G_h D_h O_h Z_h R_h I_h)) rfl rfl rfl ?_
          obtain ⟨ht, hf⟩ := h
          refine k_if_eq C dX7_put_102 (by rcases hb99 with rfl | rfl <;> decide) 109 105 (by decide) rfl (fun hc102 => ?_) (fun hc102 => ?_)
          · have h := ht hc102; clear ht hf
            refine k_iconst C dX7_put_109 110 rfl ?_
            refine k_lv C [0, 1] [(0, .ref (qh 0)), (1, .int (iI x1))] rfl ?_
            refine w_X7_put_110 C x1 3 (aset N_h.1 x1 x3, aset N_h.2 x1 x2) L_h h
          · have h := hf hc102; clear ht hf
            refine k_iconst C dX7_put_105 106 rfl ?_
            refine k_goto C dX7_put_106 110 (by decide) ?_
            refine k_lv C [0, 1] [(0, .ref (qh 0)), (1, .int (iI x1))] rfl ?_
            refine w_X7_put_110 C x1 0 (aset N_h.1 x1 x3, aset N_h.2 x1 x2) L_h h
      · have h := hf hc33; clear ht hf
        refine k_iconst C dX7_put_36 37 rfl ?_
        exact k_iret C dX7_put_37 ⟨2, N_h, L_h, rfl, rfl, h⟩
    · have h := hf hc16; clear ht hf
      refine k_iconst C dX7_put_19 20 rfl ?_
      exact k_iret C dX7_put_20 ⟨1, N_h, L_h, rfl, rfl, h⟩

/-! X7_whyNotTake -/
abbrev rm_X7_whyNotTake : Room := { frames := 3, cells := 0, slots := 0, locals := 67 }
theorem sg_X7_whyNotTake : yX7_whyNotTake.cls ≠ "java/lang/invoke/MethodHandle" ∧ yX7_whyNotTake.cls ≠ "java/lang/invoke/VarHandle" ∧ (parseMethodDescriptor yX7_whyNotTake.desc).map (fun d => d.parameters.length) = some 1 := by decide +kernel
theorem hin_X7_whyNotTake_7 : ∀ w ∈ wsX70, w ∈ wsX7_whyNotTake := fun _ h => List.mem_cons_of_mem _ (List.mem_append_right _ h)
def rp_X7_whyNotTake (cI cJ cZ : ClassId) (qh : Nat → Nat) (B_h : gMB) (P_h : gMP) (N_h : gMN) (L_h : gML) (E_h : gME) (V_h : gMV) (G_h : gMG) (D_h : gMD) (O_h : gMO) (Z_h : gMZ) (R_h : gMR) (I_h : gMI) (Q : Int → Prop) : Option Value → va_W → Prop := fun v w1 => ∃ (r : Int), v = some (.int (iI r)) ∧ w1 = (wdM cI cJ cZ qh B_h P_h N_h L_h E_h V_h G_h D_h O_h Z_h R_h I_h) ∧ Q r
def wp_X7_whyNotTake_19 (B_h : gMB) (N_h : gMN) (K_68 : Int → Prop)  (Q : Int → Prop) : Nat → Int → Int → Int → Prop
  | 0, _, _, _ => False
  | n19 + 1, x1, x2, x3 =>
    (0 ≤ x1 ∧ x1 < 10) ∧ rI x3 ∧ rI ((N_h.2 x1) + (B_h.2.2.1 x1)) ∧ ((((N_h.2 x1) + (B_h.2.2.1 x1)) ≤ x3 → K_68 x2) ∧ (¬ (((N_h.2 x1) + (B_h.2.2.1 x1)) ≤ x3) → rI x2 ∧ ((¬ x2 = 0 → wp_X7_whyNotTake_19 B_h N_h K_68 Q n19 x1 1 (x3 + 1)) ∧ (¬ (¬ x2 = 0) → wp_X7_whose B_h N_h ((N_h.1 x1) + 1) x3 (fun (r50 : Int) => rI r50 ∧ ((r50 < 0 → wp_X7_whyNotTake_19 B_h N_h K_68 Q n19 x1 0 (x3 + 1)) ∧ (¬ (r50 < 0) → wp_X7_whyNotTake_19 B_h N_h K_68 Q n19 x1 1 (x3 + 1))))))))
def wp_X7_whyNotTake (B_h : gMB) (N_h : gMN) (x1 : Int) (Q : Int → Prop) : Prop :=
    wp_X7_isIn N_h x1 (fun (r2 : Int) => ((¬ r2 = 0 → (0 ≤ x1 ∧ x1 < 10) ∧ ∃ m19, wp_X7_whyNotTake_19 B_h N_h (fun (x2 : Int) => rI x2 ∧ ((x2 = 0 → Q 0) ∧ (¬ (x2 = 0) → Q 5))) Q m19 x1 0 (N_h.2 x1)) ∧ (¬ (¬ r2 = 0) → Q 1)))
set_option maxHeartbeats 4000000 in
set_option maxRecDepth 20000 in
theorem w_X7_whyNotTake_19 {l : Launch} {D : va_G} {cI cJ cZ : ClassId} {A : Nat → Prop} {K : KT} {qh : Nat → Nat} {B_h : gMB} {P_h : gMP} {N_h : gMN} {L_h : gML} {E_h : gME} {V_h : gMV} {G_h : gMG} {D_h : gMD} {O_h : gMO} {Z_h : gMZ} {R_h : gMR} {I_h : gMI} {Q : Int → Prop} {K_68 : Int → Prop} (C : KC cX7_whyNotTake yX7_whyNotTake.cls wsX7_whyNotTake rm_X7_whyNotTake 4 D (kT cI cJ cZ) A l false (rp_X7_whyNotTake cI cJ cZ qh B_h P_h N_h L_h E_h V_h G_h D_h O_h Z_h R_h I_h Q) 0 0 K) : ∀ (n : Nat) (x1 : Int) (x2 : Int) (x3 : Int), wp_X7_whyNotTake_19 B_h N_h K_68 Q n x1 x2 x3 → (∀ (x2 : Int), K_68 x2 → K 0 0 68 [(2, .int (iI x2))] [] ((wdM cI cJ cZ qh B_h P_h N_h L_h E_h V_h G_h D_h O_h Z_h R_h I_h))) → K 0 0 19 [(0, .ref (qh 0)), (1, .int (iI x1)), (2, .int (iI x2)), (3, .int (iI x3))] [] ((wdM cI cJ cZ qh B_h P_h N_h L_h E_h V_h G_h D_h O_h Z_h R_h I_h)) := by
  intro n
  induction n with
  | zero => intro x1 x2 x3 h; exact h.elim
  | succ n ih =>
    intro x1 x2 x3 h hK_68
    refine k_iload_n C dX7_whyNotTake_19 3 rfl rfl 20 rfl ?_
    refine k_aload_n C dX7_whyNotTake_20 0 rfl rfl 21 rfl ?_
    refine k_get C dX7_whyNotTake_21 0 rfl (ci := 7) rfl hin_X7_whyNotTake_7 12 (by decide) (List.mem_of_getElem? (i := 1) rfl) rfl 24 rfl ?_
    refine k_iload_n C dX7_whyNotTake_24 1 rfl rfl 25 rfl ?_
    obtain ⟨hi25, h⟩ := h
    refine k_iaload C dX7_whyNotTake_25 9 0 rfl rfl (by decide) hi25 26 rfl ?_
    refine k_aload_n C dX7_whyNotTake_26 0 rfl rfl 27 rfl ?_
    refine k_get C dX7_whyNotTake_27 0 rfl (ci := 7) rfl hin_X7_whyNotTake_7 2 (by decide) (List.mem_of_getElem? (i := 2) rfl) rfl 30 rfl ?_
    refine k_iload_n C dX7_whyNotTake_30 1 rfl rfl 31 rfl ?_
    refine k_iaload C dX7_whyNotTake_31 1 0 rfl rfl (by decide) hi25 32 rfl ?_
    refine k_iadd C dX7_whyNotTake_32 33 rfl ?_
    obtain ⟨hr33a, hr33b, h⟩ := h
    obtain ⟨ht, hf⟩ := h
    refine k_icmp_ge C dX7_whyNotTake_33 ⟨hr33a, hr33b⟩ 68 36 (by decide) rfl (fun hc33 => ?_) (fun hc33 => ?_)
    · have h := ht hc33; clear ht hf
      refine k_lv C [2] [(2, .int (iI x2))] rfl ?_
      exact hK_68 x2 h
    · have h := hf hc33; clear ht hf
      refine k_iload_n C dX7_whyNotTake_36 2 rfl rfl 37 rfl ?_
      obtain ⟨hr37a, h⟩ := h
      obtain ⟨ht, hf⟩ := h
      refine k_if_ne C dX7_whyNotTake_37 hr37a 56 40 (by decide) rfl (fun hc37 => ?_) (fun hc37 => ?_)
      · have h := ht hc37; clear ht hf
        refine k_iconst C dX7_whyNotTake_56 57 rfl ?_
        refine k_goto C dX7_whyNotTake_57 61 (by decide) ?_
        refine k_istore_n C dX7_whyNotTake_61 rfl (by decide) [(2, .int (iI 1)), (0, .ref (qh 0)), (1, .int (iI x1)), (3, .int (iI x3))] rfl 62 rfl ?_
        refine k_iinc (j := 3) C dX7_whyNotTake_62 rfl (by decide) [(3, .int (iI (x3 + 1))), (2, .int (iI 1)), (0, .ref (qh 0)), (1, .int (iI x1))] rfl 65 rfl ?_
        refine k_goto C dX7_whyNotTake_65 19 (by decide) ?_
        refine k_lv C [2, 3, 1, 0] [(0, .ref (qh 0)), (1, .int (iI x1)), (2, .int (iI 1)), (3, .int (iI (x3 + 1)))] rfl ?_
        exact ih x1 1 (x3 + 1) h hK_68
      · have h := hf hc37; clear ht hf
        refine k_aload_n C dX7_whyNotTake_40 0 rfl rfl 41 rfl ?_
        refine k_aload_n C dX7_whyNotTake_41 0 rfl rfl 42 rfl ?_
        refine k_get C dX7_whyNotTake_42 0 rfl (ci := 7) rfl hin_X7_whyNotTake_7 11 (by decide) (List.mem_of_getElem? (i := 3) rfl) rfl 45 rfl ?_
        refine k_iload_n C dX7_whyNotTake_45 1 rfl rfl 46 rfl ?_
        refine k_iaload C dX7_whyNotTake_46 8 0 rfl rfl (by decide) hi25 47 rfl ?_
        refine k_iconst C dX7_whyNotTake_47 48 rfl ?_
        refine k_iadd C dX7_whyNotTake_48 49 rfl ?_
        refine k_iload_n C dX7_whyNotTake_49 3 rfl rfl 50 rfl ?_
        have hM := c_X7_whose (l := l) (D := D) (cI := cI) (cJ := cJ) (cZ := cZ) qh B_h P_h N_h L_h E_h V_h G_h D_h O_h Z_h R_h I_h ((N_h.1 x1) + 1) x3 _ h
        refine k_callV C dX7_whyNotTake_50 hM gX7_whyNotTake_X7_whose rfl sg_X7_whose 7 rfl rfl rfl (Nat.le_of_ble_eq_true rfl) ⟨⟨rfl, rfl⟩, by decide, by decide⟩ ⟨Nat.le_refl 0, Nat.le_refl 0⟩ [0, 1, 2, 3, 4, 5, 6, 7, 8, 9, 10, 11, 12, 13, 14, 15, 16] [] rfl rfl rfl rfl (by decide) 0 0 ⟨rfl, rfl⟩ 53 rfl (fun v w1 hq50 => ?_)
        obtain ⟨r50, rfl, rfl, h⟩ := hq50
        refine k_perm C [0, 1, 2, 3, 4, 5, 6, 7, 8, 9, 10, 11, 12, 13, 14, 15, 16] [.int (iI r50)] ((wdM cI cJ cZ qh B_h P_h N_h L_h E_h V_h G_h D_h O_h Z_h R_h I_h)) rfl rfl rfl ?_
        obtain ⟨hr53a, h⟩ := h
        obtain ⟨ht, hf⟩ := h
        refine k_if_lt C dX7_whyNotTake_53 hr53a 60 56 (by decide) rfl (fun hc53 => ?_) (fun hc53 => ?_)
        · have h := ht hc53; clear ht hf
          refine k_iconst C dX7_whyNotTake_60 61 rfl ?_
          refine k_istore_n C dX7_whyNotTake_61 rfl (by decide) [(2, .int (iI 0)), (0, .ref (qh 0)), (1, .int (iI x1)), (3, .int (iI x3))] rfl 62 rfl ?_
          refine k_iinc (j := 3) C dX7_whyNotTake_62 rfl (by decide) [(3, .int (iI (x3 + 1))), (2, .int (iI 0)), (0, .ref (qh 0)), (1, .int (iI x1))] rfl 65 rfl ?_
          refine k_goto C dX7_whyNotTake_65 19 (by decide) ?_
          refine k_lv C [2, 3, 1, 0] [(0, .ref (qh 0)), (1, .int (iI x1)), (2, .int (iI 0)), (3, .int (iI (x3 + 1)))] rfl ?_
          exact ih x1 0 (x3 + 1) h hK_68
        · have h := hf hc53; clear ht hf
          refine k_iconst C dX7_whyNotTake_56 57 rfl ?_
          refine k_goto C dX7_whyNotTake_57 61 (by decide) ?_
          refine k_istore_n C dX7_whyNotTake_61 rfl (by decide) [(2, .int (iI 1)), (0, .ref (qh 0)), (1, .int (iI x1)), (3, .int (iI x3))] rfl 62 rfl ?_
          refine k_iinc (j := 3) C dX7_whyNotTake_62 rfl (by decide) [(3, .int (iI (x3 + 1))), (2, .int (iI 1)), (0, .ref (qh 0)), (1, .int (iI x1))] rfl 65 rfl ?_
          refine k_goto C dX7_whyNotTake_65 19 (by decide) ?_
          refine k_lv C [2, 3, 1, 0] [(0, .ref (qh 0)), (1, .int (iI x1)), (2, .int (iI 1)), (3, .int (iI (x3 + 1)))] rfl ?_
          exact ih x1 1 (x3 + 1) h hK_68
set_option maxHeartbeats 4000000 in
set_option maxRecDepth 20000 in
theorem c_X7_whyNotTake {l : Launch} {D : va_G} {cI cJ cZ : ClassId} (qh : Nat → Nat) (B_h : gMB) (P_h : gMP) (N_h : gMN) (L_h : gML) (E_h : gME) (V_h : gMV) (G_h : gMG) (D_h : gMD) (O_h : gMO) (Z_h : gMZ) (R_h : gMR) (I_h : gMI) (x1 : Int) (Q : Int → Prop) (h : wp_X7_whyNotTake B_h N_h x1 Q) : KM l D (kT cI cJ cZ) 0 0 yX7_whyNotTake wsX7_whyNotTake rm_X7_whyNotTake [.ref (qh 0), .int (iI x1)] ((wdM cI cJ cZ qh B_h P_h N_h L_h E_h V_h G_h D_h O_h Z_h R_h I_h)) (rp_X7_whyNotTake cI cJ cZ qh B_h P_h N_h L_h E_h V_h G_h D_h O_h Z_h R_h I_h Q) := by
  refine KM_intro (lv := [(0, .ref (qh 0)), (1, .int (iI x1))]) false rfl (by decide) (Nat.le_of_ble_eq_true rfl) rfl (fun h => absurd h (by decide)) (fun v ws hq => by obtain ⟨r, rfl, rfl, _⟩ := hq; exact Or.inr (Or.inl ⟨rfl, _, rfl⟩)) (fun A K C => ?_)
  refine k_aload_n C dX7_whyNotTake_0 0 rfl rfl 1 rfl ?_
  refine k_iload_n C dX7_whyNotTake_1 1 rfl rfl 2 rfl ?_
  have hM := c_X7_isIn (l := l) (D := D) (cI := cI) (cJ := cJ) (cZ := cZ) qh B_h P_h N_h L_h E_h V_h G_h D_h O_h Z_h R_h I_h x1 _ h
  refine k_callV C dX7_whyNotTake_2 hM gX7_whyNotTake_X7_isIn rfl sg_X7_isIn 7 rfl rfl rfl (Nat.le_of_ble_eq_true rfl) ⟨⟨rfl, rfl⟩, by decide, by decide⟩ ⟨Nat.le_refl 0, Nat.le_refl 0⟩ [0, 1, 2, 3, 4, 5, 6, 7, 8, 9, 10, 11, 12, 13, 14, 15, 16] [] rfl rfl rfl rfl (by decide) 0 0 ⟨rfl, rfl⟩ 5 rfl (fun v w1 hq2 => ?_)
  obtain ⟨r2, rfl, rfl, hb2, h⟩ := hq2
  refine k_perm C [0, 1, 2, 3, 4, 5, 6, 7, 8, 9, 10, 11, 12, 13, 14, 15, 16] [.int (iI r2)] ((wdM cI cJ cZ qh B_h P_h N_h L_h E_h V_h G_h D_h O_h Z_h R_h I_h)) rfl rfl rfl ?_
  obtain ⟨ht, hf⟩ := h
  refine k_if_ne C dX7_whyNotTake_5 (by rcases hb2 with rfl | rfl <;> decide) 10 8 (by decide) rfl (fun hc5 => ?_) (fun hc5 => ?_)
  · have h := ht hc5; clear ht hf
    refine k_iconst C dX7_whyNotTake_10 11 rfl ?_
    refine k_istore_n C dX7_whyNotTake_11 rfl (by decide) [(2, .int (iI 0)), (0, .ref (qh 0)), (1, .int (iI x1))] rfl 12 rfl ?_
    refine k_aload_n C dX7_whyNotTake_12 1 rfl rfl 13 rfl ?_
    refine k_get C dX7_whyNotTake_13 0 rfl (ci := 7) rfl hin_X7_whyNotTake_7 12 (by decide) (List.mem_of_getElem? (i := 1) rfl) rfl 16 rfl ?_
    refine k_iload_n C dX7_whyNotTake_16 2 rfl rfl 17 rfl ?_
    obtain ⟨hi17, h⟩ := h
    refine k_iaload C dX7_whyNotTake_17 9 0 rfl rfl (by decide) hi17 18 rfl ?_
    refine k_istore_n C dX7_whyNotTake_18 rfl (by decide) [(3, .int (iI (N_h.2 x1))), (2, .int (iI 0)), (0, .ref (qh 0)), (1, .int (iI x1))] rfl 19 rfl ?_
    refine k_lv C [2, 3, 1, 0] [(0, .ref (qh 0)), (1, .int (iI x1)), (2, .int (iI 0)), (3, .int (iI (N_h.2 x1)))] rfl ?_
    obtain ⟨m19, h⟩ := h
    refine w_X7_whyNotTake_19 C m19 x1 0 (N_h.2 x1) h (fun x2 h => ?_)
    · refine k_iload_n C dX7_whyNotTake_68 0 rfl rfl 69 rfl ?_
      obtain ⟨hr69a, h⟩ := h
      obtain ⟨ht, hf⟩ := h
      refine k_if_eq C dX7_whyNotTake_69 hr69a 76 72 (by decide) rfl (fun hc69 => ?_) (fun hc69 => ?_)
      · have h := ht hc69; clear ht hf
        refine k_iconst C dX7_whyNotTake_76 77 rfl ?_
        exact k_iret C dX7_whyNotTake_77 ⟨0, rfl, rfl, h⟩
      · have h := hf hc69; clear ht hf
        refine k_iconst C dX7_whyNotTake_72 73 rfl ?_
        refine k_goto C dX7_whyNotTake_73 77 (by decide) ?_
        exact k_iret C dX7_whyNotTake_77 ⟨5, rfl, rfl, h⟩
  · have h := hf hc5; clear ht hf
    refine k_iconst C dX7_whyNotTake_8 9 rfl ?_
    exact k_iret C dX7_whyNotTake_9 ⟨1, rfl, rfl, h⟩

/-! X7_goYears -/
abbrev rm_X7_goYears : Room := { frames := 6, cells := 0, slots := 0, locals := 141 }
theorem sg_X7_goYears : yX7_goYears.cls ≠ "java/lang/invoke/MethodHandle" ∧ yX7_goYears.cls ≠ "java/lang/invoke/VarHandle" ∧ (parseMethodDescriptor yX7_goYears.desc).map (fun d => d.parameters.length) = some 0 := by decide +kernel
theorem hin_X7_goYears_7 : ∀ w ∈ wsX70, w ∈ wsX7_goYears := fun _ h => List.mem_cons_of_mem _ (List.mem_append_right _ h)
def rp_X7_goYears (cI cJ cZ : ClassId) (qh : Nat → Nat) (B_h : gMB) (P_h : gMP) (V_h : gMV) (G_h : gMG) (D_h : gMD) (O_h : gMO) (Z_h : gMZ) (R_h : gMR) (I_h : gMI) (Q : Int → gMN → gML → gME → Prop) : Option Value → va_W → Prop := fun v w1 => ∃ (r : Int) (N_h : gMN) (L_h : gML) (E_h : gME), v = some (.int (iI r)) ∧ w1 = (wdM cI cJ cZ qh B_h P_h N_h L_h E_h V_h G_h D_h O_h Z_h R_h I_h) ∧ Q r N_h L_h E_h
def wp_X7_goYears_81 (K_6 : Int → gMN → gML → gME → Prop) (K_88 : Int → gMN → gML → gME → Prop)  (Q : Int → gMN → gML → gME → Prop) (x1 : Int) (N_h : gMN) (L_h : gML) (E_h : gME) : Prop :=
    rI E_h ∧ ((E_h ≤ 0 → K_6 (x1 + 2) N_h L_h E_h) ∧ (¬ (E_h ≤ 0) → K_88 x1 N_h L_h E_h))
def wp_X7_goYears_6 (B_h : gMB) (D_h : gMD) (K_88 : Int → gMN → gML → gME → Prop) (K_98 : gMN → gML → gME → Prop)  (Q : Int → gMN → gML → gME → Prop) : Nat → Int → gMN → gML → gME → Prop
  | 0, _, _, _, _ => False
  | n6 + 1, x1, N_h, L_h, E_h =>
    rI x1 ∧ rI D_h.1 ∧ ((D_h.1 ≤ x1 → K_98 N_h L_h E_h) ∧ (¬ (D_h.1 ≤ x1) → (0 ≤ x1 ∧ x1 < 60) ∧ (0 ≤ (x1 + 1) ∧ (x1 + 1) < 60) ∧ rI (D_h.2 (x1 + 1)) ∧ ((¬ (D_h.2 (x1 + 1)) = 45 → wp_X7_put B_h N_h L_h ((D_h.2 x1) - 65) ((D_h.2 (x1 + 1)) - 48) (fun (r75 : Int) (N_h_75 : gMN) (L_h_75 : gML) => wp_X7_goYears_81 (fun (x1 : Int) (N_h : gMN) (L_h : gML) (E_h : gME) => wp_X7_goYears_6 B_h D_h K_88 K_98 Q n6 x1 N_h L_h E_h) K_88 Q x1 N_h_75 L_h_75 r75)) ∧ (¬ (¬ (D_h.2 (x1 + 1)) = 45) → wp_X7_whyNotTake B_h N_h ((D_h.2 x1) - 65) (fun (r40 : Int) => rI r40 ∧ ((¬ r40 = 0 → wp_X7_goYears_81 (fun (x1 : Int) (N_h : gMN) (L_h : gML) (E_h : gME) => wp_X7_goYears_6 B_h D_h K_88 K_98 Q n6 x1 N_h L_h E_h) K_88 Q x1 N_h L_h r40) ∧ (¬ (¬ r40 = 0) → wp_X7_take N_h ((D_h.2 x1) - 65) (fun (N_h_55 : gMN) => wp_X7_goYears_81 (fun (x1 : Int) (N_h : gMN) (L_h : gML) (E_h : gME) => wp_X7_goYears_6 B_h D_h K_88 K_98 Q n6 x1 N_h L_h E_h) K_88 Q x1 N_h_55 L_h r40))))))))
def wp_X7_goYears (B_h : gMB) (P_h : gMP) (N_h : gMN) (L_h : gML) (E_h : gME) (D_h : gMD) (Q : Int → gMN → gML → gME → Prop) : Prop :=
    wp_X7_asNow P_h N_h (fun (N_h_1 : gMN) => ∃ m6, wp_X7_goYears_6 B_h D_h (fun (x1 : Int) (N_h : gMN) (L_h : gML) (E_h : gME) => rI x1 ∧ Q (x1.tdiv 2) N_h L_h E_h) (fun (N_h : gMN) (L_h : gML) (E_h : gME) => Q (-6) N_h L_h E_h) Q m6 0 N_h_1 L_h E_h)
set_option maxHeartbeats 4000000 in
set_option maxRecDepth 20000 in
theorem w_X7_goYears_81 {l : Launch} {D : va_G} {cI cJ cZ : ClassId} {A : Nat → Prop} {K : KT} {qh : Nat → Nat} {B_h : gMB} {P_h : gMP} {V_h : gMV} {G_h : gMG} {D_h : gMD} {O_h : gMO} {Z_h : gMZ} {R_h : gMR} {I_h : gMI} {Q : Int → gMN → gML → gME → Prop} {K_6 : Int → gMN → gML → gME → Prop} {K_88 : Int → gMN → gML → gME → Prop} (C : KC cX7_goYears yX7_goYears.cls wsX7_goYears rm_X7_goYears 3 D (kT cI cJ cZ) A l false (rp_X7_goYears cI cJ cZ qh B_h P_h V_h G_h D_h O_h Z_h R_h I_h Q) 0 0 K) : ∀ (x1 : Int) (N_h : gMN) (L_h : gML) (E_h : gME), wp_X7_goYears_81 K_6 K_88 Q x1 N_h L_h E_h → (∀ (x1 : Int) (N_h : gMN) (L_h : gML) (E_h : gME), K_6 x1 N_h L_h E_h → K 0 0 6 [(0, .ref (qh 0)), (1, .int (iI x1))] [] ((wdM cI cJ cZ qh B_h P_h N_h L_h E_h V_h G_h D_h O_h Z_h R_h I_h))) → (∀ (x1 : Int) (N_h : gMN) (L_h : gML) (E_h : gME), K_88 x1 N_h L_h E_h → K 0 0 88 [(1, .int (iI x1))] [] ((wdM cI cJ cZ qh B_h P_h N_h L_h E_h V_h G_h D_h O_h Z_h R_h I_h))) → K 0 0 81 [(0, .ref (qh 0)), (1, .int (iI x1))] [] ((wdM cI cJ cZ qh B_h P_h N_h L_h E_h V_h G_h D_h O_h Z_h R_h I_h)) := by
  intro x1 N_h L_h E_h h hK_6 hK_88
  refine k_aload_n C dX7_goYears_81 0 rfl rfl 82 rfl ?_
  refine k_get C dX7_goYears_82 0 rfl (ci := 7) rfl hin_X7_goYears_7 14 (by decide) (List.mem_of_getElem? (i := 3) rfl) rfl 85 rfl ?_
  obtain ⟨hr85a, h⟩ := h
  obtain ⟨ht, hf⟩ := h
  refine k_if_le C dX7_goYears_85 hr85a 92 88 (by decide) rfl (fun hc85 => ?_) (fun hc85 => ?_)
  · have h := ht hc85; clear ht hf
    refine k_iinc (j := 1) C dX7_goYears_92 rfl (by decide) [(1, .int (iI (x1 + 2))), (0, .ref (qh 0))] rfl 95 rfl ?_
    refine k_goto C dX7_goYears_95 6 (by decide) ?_
    refine k_lv C [1, 0] [(0, .ref (qh 0)), (1, .int (iI (x1 + 2)))] rfl ?_
    exact hK_6 (x1 + 2) N_h L_h E_h h
  · have h := hf hc85; clear ht hf
    refine k_lv C [1] [(1, .int (iI x1))] rfl ?_
    exact hK_88 x1 N_h L_h E_h h
set_option maxHeartbeats 4000000 in
set_option maxRecDepth 20000 in
theorem w_X7_goYears_6 {l : Launch} {D : va_G} {cI cJ cZ : ClassId} {A : Nat → Prop} {K : KT} {qh : Nat → Nat} {B_h : gMB} {P_h : gMP} {V_h : gMV} {G_h : gMG} {D_h : gMD} {O_h : gMO} {Z_h : gMZ} {R_h : gMR} {I_h : gMI} {Q : Int → gMN → gML → gME → Prop} {K_88 : Int → gMN → gML → gME → Prop} {K_98 : gMN → gML → gME → Prop} (C : KC cX7_goYears yX7_goYears.cls wsX7_goYears rm_X7_goYears 3 D (kT cI cJ cZ) A l false (rp_X7_goYears cI cJ cZ qh B_h P_h V_h G_h D_h O_h Z_h R_h I_h Q) 0 0 K) : ∀ (n : Nat) (x1 : Int) (N_h : gMN) (L_h : gML) (E_h : gME), wp_X7_goYears_6 B_h D_h K_88 K_98 Q n x1 N_h L_h E_h → (∀ (x1 : Int) (N_h : gMN) (L_h : gML) (E_h : gME), K_88 x1 N_h L_h E_h → K 0 0 88 [(1, .int (iI x1))] [] ((wdM cI cJ cZ qh B_h P_h N_h L_h E_h V_h G_h D_h O_h Z_h R_h I_h))) → (∀ (N_h : gMN) (L_h : gML) (E_h : gME), K_98 N_h L_h E_h → K 0 0 98 [] [] ((wdM cI cJ cZ qh B_h P_h N_h L_h E_h V_h G_h D_h O_h Z_h R_h I_h))) → K 0 0 6 [(0, .ref (qh 0)), (1, .int (iI x1))] [] ((wdM cI cJ cZ qh B_h P_h N_h L_h E_h V_h G_h D_h O_h Z_h R_h I_h)) := by
  intro n
  induction n with
  | zero => intro x1 N_h L_h E_h h; exact h.elim
  | succ n ih =>
    intro x1 N_h L_h E_h h hK_88 hK_98
    refine k_iload_n C dX7_goYears_6 1 rfl rfl 7 rfl ?_
    refine k_aload_n C dX7_goYears_7 0 rfl rfl 8 rfl ?_
    refine k_get C dX7_goYears_8 0 rfl (ci := 7) rfl hin_X7_goYears_7 9 (by decide) (List.mem_of_getElem? (i := 1) rfl) rfl 11 rfl ?_
    obtain ⟨hr11a, hr11b, h⟩ := h
    obtain ⟨ht, hf⟩ := h
    refine k_icmp_ge C dX7_goYears_11 ⟨hr11a, hr11b⟩ 98 14 (by decide) rfl (fun hc11 => ?_) (fun hc11 => ?_)
    · have h := ht hc11; clear ht hf
      refine k_lv C [] [] rfl ?_
      exact hK_98 N_h L_h E_h h
    · have h := hf hc11; clear ht hf
      refine k_aload_n C dX7_goYears_14 0 rfl rfl 15 rfl ?_
      refine k_get C dX7_goYears_15 0 rfl (ci := 7) rfl hin_X7_goYears_7 10 (by decide) (List.mem_of_getElem? (i := 2) rfl) rfl 18 rfl ?_
      refine k_iload_n C dX7_goYears_18 1 rfl rfl 19 rfl ?_
      obtain ⟨hi19, h⟩ := h
      refine k_iaload C dX7_goYears_19 7 0 rfl rfl (by decide) hi19 20 rfl ?_
      refine k_bipush C dX7_goYears_20 (by decide) 22 rfl ?_
      refine k_isub C dX7_goYears_22 23 rfl ?_
      refine k_istore_n C dX7_goYears_23 rfl (by decide) [(2, .int (iI ((D_h.2 x1) - 65))), (0, .ref (qh 0)), (1, .int (iI x1))] rfl 24 rfl ?_
      refine k_aload_n C dX7_goYears_24 1 rfl rfl 25 rfl ?_
      refine k_get C dX7_goYears_25 0 rfl (ci := 7) rfl hin_X7_goYears_7 10 (by decide) (List.mem_of_getElem? (i := 2) rfl) rfl 28 rfl ?_
      refine k_iload_n C dX7_goYears_28 2 rfl rfl 29 rfl ?_
      refine k_iconst C dX7_goYears_29 30 rfl ?_
      refine k_iadd C dX7_goYears_30 31 rfl ?_
      obtain ⟨hi31, h⟩ := h
      refine k_iaload C dX7_goYears_31 7 0 rfl rfl (by decide) hi31 32 rfl ?_
      refine k_bipush C dX7_goYears_32 (by decide) 34 rfl ?_
      obtain ⟨hr34a, h⟩ := h
      obtain ⟨ht, hf⟩ := h
      refine k_icmp_ne C dX7_goYears_34 ⟨hr34a, (by decide)⟩ 61 37 (by decide) rfl (fun hc34 => ?_) (fun hc34 => ?_)
      · have h := ht hc34; clear ht hf
        refine k_aload_n C dX7_goYears_61 1 rfl rfl 62 rfl ?_
        refine k_aload_n C dX7_goYears_62 1 rfl rfl 63 rfl ?_
        refine k_iload_n C dX7_goYears_63 0 rfl rfl 64 rfl ?_
        refine k_aload_n C dX7_goYears_64 1 rfl rfl 65 rfl ?_
        refine k_get C dX7_goYears_65 0 rfl (ci := 7) rfl hin_X7_goYears_7 10 (by decide) (List.mem_of_getElem? (i := 2) rfl) rfl 68 rfl ?_
        refine k_iload_n C dX7_goYears_68 2 rfl rfl 69 rfl ?_
        refine k_iconst C dX7_goYears_69 70 rfl ?_
        refine k_iadd C dX7_goYears_70 71 rfl ?_
        refine k_iaload C dX7_goYears_71 7 0 rfl rfl (by decide) hi31 72 rfl ?_
        refine k_bipush C dX7_goYears_72 (by decide) 74 rfl ?_
        refine k_isub C dX7_goYears_74 75 rfl ?_
        have hM := c_X7_put (l := l) (D := D) (cI := cI) (cJ := cJ) (cZ := cZ) qh B_h P_h N_h L_h E_h V_h G_h D_h O_h Z_h R_h I_h ((D_h.2 x1) - 65) ((D_h.2 (x1 + 1)) - 48) _ h
        refine k_callV C dX7_goYears_75 hM gX7_goYears_X7_put rfl sg_X7_put 7 rfl rfl rfl (Nat.le_of_ble_eq_true rfl) ⟨⟨rfl, rfl⟩, by decide, by decide⟩ ⟨Nat.le_refl 0, Nat.le_refl 0⟩ [0, 1, 2, 3, 4, 5, 6, 7, 8, 9, 10, 11, 12, 13, 14, 15, 16] [] rfl rfl rfl rfl (by decide) 0 0 ⟨rfl, rfl⟩ 78 rfl (fun v w1 hq75 => ?_)
        obtain ⟨r75, N_h_75, L_h_75, rfl, rfl, h⟩ := hq75
        refine k_perm C [0, 1, 2, 3, 4, 5, 6, 7, 8, 9, 10, 11, 12, 13, 14, 15, 16] [.int (iI r75), .ref (qh 0)] ((wdM cI cJ cZ qh B_h P_h N_h_75 L_h_75 E_h V_h G_h D_h O_h Z_h R_h I_h)) rfl rfl rfl ?_
        refine k_put C dX7_goYears_78 0 rfl (ci := 7) rfl hin_X7_goYears_7 tyX7_ok nmX7 14 (by decide) (List.mem_of_getElem? (i := 3) rfl) rfl rfl rfl (Nat.le_of_ble_eq_true rfl) ((wdM cI cJ cZ qh B_h P_h N_h_75 L_h_75 r75 V_h G_h D_h O_h Z_h R_h I_h)) rfl 81 rfl ?_
        refine k_lv C [1, 2] [(0, .ref (qh 0)), (1, .int (iI x1))] rfl ?_
        refine w_X7_goYears_81 C x1 N_h_75 L_h_75 r75 h (fun x1 N_h L_h E_h h => ?_) hK_88
        · exact ih x1 N_h L_h E_h h hK_88 hK_98
      · have h := hf hc34; clear ht hf
        refine k_aload_n C dX7_goYears_37 1 rfl rfl 38 rfl ?_
        refine k_aload_n C dX7_goYears_38 1 rfl rfl 39 rfl ?_
        refine k_iload_n C dX7_goYears_39 0 rfl rfl 40 rfl ?_
        have hM := c_X7_whyNotTake (l := l) (D := D) (cI := cI) (cJ := cJ) (cZ := cZ) qh B_h P_h N_h L_h E_h V_h G_h D_h O_h Z_h R_h I_h ((D_h.2 x1) - 65) _ h
        refine k_callV C dX7_goYears_40 hM gX7_goYears_X7_whyNotTake rfl sg_X7_whyNotTake 7 rfl rfl rfl (Nat.le_of_ble_eq_true rfl) ⟨⟨rfl, rfl⟩, by decide, by decide⟩ ⟨Nat.le_refl 0, Nat.le_refl 0⟩ [0, 1, 2, 3, 4, 5, 6, 7, 8, 9, 10, 11, 12, 13, 14, 15, 16] [] rfl rfl rfl rfl (by decide) 0 0 ⟨rfl, rfl⟩ 43 rfl (fun v w1 hq40 => ?_)
        obtain ⟨r40, rfl, rfl, h⟩ := hq40
        refine k_perm C [0, 1, 2, 3, 4, 5, 6, 7, 8, 9, 10, 11, 12, 13, 14, 15, 16] [.int (iI r40), .ref (qh 0)] ((wdM cI cJ cZ qh B_h P_h N_h L_h E_h V_h G_h D_h O_h Z_h R_h I_h)) rfl rfl rfl ?_
        refine k_put C dX7_goYears_43 0 rfl (ci := 7) rfl hin_X7_goYears_7 tyX7_ok nmX7 14 (by decide) (List.mem_of_getElem? (i := 3) rfl) rfl rfl rfl (Nat.le_of_ble_eq_true rfl) ((wdM cI cJ cZ qh B_h P_h N_h L_h r40 V_h G_h D_h O_h Z_h R_h I_h)) rfl 46 rfl ?_
        refine k_aload_n C dX7_goYears_46 1 rfl rfl 47 rfl ?_
        refine k_get C dX7_goYears_47 0 rfl (ci := 7) rfl hin_X7_goYears_7 14 (by decide) (List.mem_of_getElem? (i := 3) rfl) rfl 50 rfl ?_
        obtain ⟨hr50a, h⟩ := h
        obtain ⟨ht, hf⟩ := h
        refine k_if_ne C dX7_goYears_50 hr50a 81 53 (by decide) rfl (fun hc50 => ?_) (fun hc50 => ?_)
        · have h := ht hc50; clear ht hf
          refine k_lv C [1, 2] [(0, .ref (qh 0)), (1, .int (iI x1))] rfl ?_
          refine w_X7_goYears_81 C x1 N_h L_h r40 h (fun x1 N_h L_h E_h h => ?_) hK_88
          · exact ih x1 N_h L_h E_h h hK_88 hK_98
        · have h := hf hc50; clear ht hf
          refine k_aload_n C dX7_goYears_53 1 rfl rfl 54 rfl ?_
          refine k_iload_n C dX7_goYears_54 0 rfl rfl 55 rfl ?_
          have hM := c_X7_take (l := l) (D := D) (cI := cI) (cJ := cJ) (cZ := cZ) qh B_h P_h N_h L_h r40 V_h G_h D_h O_h Z_h R_h I_h ((D_h.2 x1) - 65) _ h
          refine k_callV C dX7_goYears_55 hM gX7_goYears_X7_take rfl sg_X7_take 7 rfl rfl rfl (Nat.le_of_ble_eq_true rfl) ⟨⟨rfl, rfl⟩, by decide, by decide⟩ ⟨Nat.le_refl 0, Nat.le_refl 0⟩ [0, 1, 2, 3, 4, 5, 6, 7, 8, 9, 10, 11, 12, 13, 14, 15, 16] [] rfl rfl rfl rfl (by decide) 0 0 ⟨rfl, rfl⟩ 58 rfl (fun v w1 hq55 => ?_)
          obtain ⟨N_h_55, rfl, rfl, h⟩ := hq55
          refine k_perm C [0, 1, 2, 3, 4, 5, 6, 7, 8, 9, 10, 11, 12, 13, 14, 15, 16] [] ((wdM cI cJ cZ qh B_h P_h N_h_55 L_h r40 V_h G_h D_h O_h Z_h R_h I_h)) rfl rfl rfl ?_
          refine k_goto C dX7_goYears_58 81 (by decide) ?_
          refine k_lv C [1, 2] [(0, .ref (qh 0)), (1, .int (iI x1))] rfl ?_
          refine w_X7_goYears_81 C x1 N_h_55 L_h r40 h (fun x1 N_h L_h E_h h => ?_) hK_88
          · exact ih x1 N_h L_h E_h h hK_88 hK_98
set_option maxHeartbeats 4000000 in
set_option maxRecDepth 20000 in
theorem c_X7_goYears {l : Launch} {D : va_G} {cI cJ cZ : ClassId} (qh : Nat → Nat) (B_h : gMB) (P_h : gMP) (N_h : gMN) (L_h : gML) (E_h : gME) (V_h : gMV) (G_h : gMG) (D_h : gMD) (O_h : gMO) (Z_h : gMZ) (R_h : gMR) (I_h : gMI) (Q : Int → gMN → gML → gME → Prop) (h : wp_X7_goYears B_h P_h N_h L_h E_h D_h Q) : KM l D (kT cI cJ cZ) 0 0 yX7_goYears wsX7_goYears rm_X7_goYears [.ref (qh 0)] ((wdM cI cJ cZ qh B_h P_h N_h L_h E_h V_h G_h D_h O_h Z_h R_h I_h)) (rp_X7_goYears cI cJ cZ qh B_h P_h V_h G_h D_h O_h Z_h R_h I_h Q) := by
  refine KM_intro (lv := [(0, .ref (qh 0))]) false rfl (by decide) (Nat.le_of_ble_eq_true rfl) rfl (fun h => absurd h (by decide)) (fun v ws hq => by obtain ⟨r, N_h, L_h, E_h, rfl, rfl, _⟩ := hq; exact Or.inr (Or.inl ⟨rfl, _, rfl⟩)) (fun A K C => ?_)
  refine k_aload_n C dX7_goYears_0 0 rfl rfl 1 rfl ?_
  have hM := c_X7_asNow (l := l) (D := D) (cI := cI) (cJ := cJ) (cZ := cZ) qh B_h P_h N_h L_h E_h V_h G_h D_h O_h Z_h R_h I_h _ h
  refine k_callV C dX7_goYears_1 hM gX7_goYears_X7_asNow rfl sg_X7_asNow 7 rfl rfl rfl (Nat.le_of_ble_eq_true rfl) ⟨⟨rfl, rfl⟩, by decide, by decide⟩ ⟨Nat.le_refl 0, Nat.le_refl 0⟩ [0, 1, 2, 3, 4, 5, 6, 7, 8, 9, 10, 11, 12, 13, 14, 15, 16] [] rfl rfl rfl rfl (by decide) 0 0 ⟨rfl, rfl⟩ 4 rfl (fun v w1 hq1 => ?_)
  obtain ⟨N_h_1, rfl, rfl, h⟩ := hq1
  refine k_perm C [0, 1, 2, 3, 4, 5, 6, 7, 8, 9, 10, 11, 12, 13, 14, 15, 16] [] ((wdM cI cJ cZ qh B_h P_h N_h_1 L_h E_h V_h G_h D_h O_h Z_h R_h I_h)) rfl rfl rfl ?_
  refine k_iconst C dX7_goYears_4 5 rfl ?_
  refine k_istore_n C dX7_goYears_5 rfl (by decide) [(1, .int (iI 0)), (0, .ref (qh 0))] rfl 6 rfl ?_
  refine k_lv C [1, 0] [(0, .ref (qh 0)), (1, .int (iI 0))] rfl ?_
  obtain ⟨m6, h⟩ := h
  refine w_X7_goYears_6 C m6 0 N_h_1 L_h E_h h (fun x1 N_h L_h E_h h => ?_) (fun N_h L_h E_h h => ?_)
  · refine k_iload_n C dX7_goYears_88 0 rfl rfl 89 rfl ?_
    refine k_iconst C dX7_goYears_89 90 rfl ?_
    obtain ⟨hr90a, h⟩ := h
    refine k_idiv C dX7_goYears_90 ⟨hr90a, (by decide), (by decide)⟩ 91 rfl ?_
    exact k_iret C dX7_goYears_91 ⟨x1.tdiv 2, N_h, L_h, E_h, rfl, rfl, h⟩
  · refine k_bipush C dX7_goYears_98 (by decide) 100 rfl ?_
    exact k_iret C dX7_goYears_100 ⟨(-6), N_h, L_h, E_h, rfl, rfl, h⟩

/-! X7_judge -/
abbrev rm_X7_judge : Room := { frames := 7, cells := 0, slots := 0, locals := 163 }
theorem sg_X7_judge : yX7_judge.cls ≠ "java/lang/invoke/MethodHandle" ∧ yX7_judge.cls ≠ "java/lang/invoke/VarHandle" ∧ (parseMethodDescriptor yX7_judge.desc).map (fun d => d.parameters.length) = some 1 := by decide +kernel
theorem hin_X7_judge_7 : ∀ w ∈ wsX70, w ∈ wsX7_judge := fun _ h => List.mem_cons_of_mem _ (List.mem_append_right _ h)
def rp_X7_judge (cI cJ cZ : ClassId) (qh : Nat → Nat) (B_h : gMB) (P_h : gMP) (V_h : gMV) (G_h : gMG) (D_h : gMD) (O_h : gMO) (Z_h : gMZ) (R_h : gMR) (I_h : gMI) (Q : Int → gMN → gML → gME → Prop) : Option Value → va_W → Prop := fun v w1 => ∃ (r : Int) (N_h : gMN) (L_h : gML) (E_h : gME), v = some (.int (iI r)) ∧ w1 = (wdM cI cJ cZ qh B_h P_h N_h L_h E_h V_h G_h D_h O_h Z_h R_h I_h) ∧ Q r N_h L_h E_h
def wp_X7_judge (B_h : gMB) (P_h : gMP) (N_h : gMN) (L_h : gML) (E_h : gME) (D_h : gMD) (x1 : Int) (Q : Int → gMN → gML → gME → Prop) : Prop :=
    wp_X7_in x1 0 1 (fun (r3 : Int) => ((¬ r3 = 0 → wp_X7_faultOf B_h D_h (fun (r13 : Int) => rI r13 ∧ ((r13 < 0 → wp_X7_goYears B_h P_h N_h L_h E_h D_h (fun (r23 : Int) (N_h_23 : gMN) (L_h_23 : gML) (E_h_23 : gME) => rI r23 ∧ ((r23 < 0 → Q r23 N_h_23 L_h_23 E_h_23) ∧ (¬ (r23 < 0) → rI x1 ∧ ((¬ x1 = 0 → Q E_h_23 N_h_23 L_h_23 E_h_23) ∧ (¬ (¬ x1 = 0) → Q r23 N_h_23 L_h_23 E_h_23)))))) ∧ (¬ (r13 < 0) → Q (-5) N_h L_h E_h)))) ∧ (¬ (¬ r3 = 0) → Q (-2) N_h L_h E_h)))

set_option maxHeartbeats 4000000 in
set_option maxRecDepth 20000 in
theorem c_X7_judge {l : Launch} {D : va_G} {cI cJ cZ : ClassId} (qh : Nat → Nat) (B_h : gMB) (P_h : gMP) (N_h : gMN) (L_h : gML) (E_h : gME) (V_h : gMV) (G_h : gMG) (D_h : gMD) (O_h : gMO) (Z_h : gMZ) (R_h : gMR) (I_h : gMI) (x1 : Int) (Q : Int → gMN → gML → gME → Prop) (h : wp_X7_judge B_h P_h N_h L_h E_h D_h x1 Q) : KM l D (kT cI cJ cZ) 0 0 yX7_judge wsX7_judge rm_X7_judge [.ref (qh 0), .int (iI x1)] ((wdM cI cJ cZ qh B_h P_h N_h L_h E_h V_h G_h D_h O_h Z_h R_h I_h)) (rp_X7_judge cI cJ cZ qh B_h P_h V_h G_h D_h O_h Z_h R_h I_h Q) := by
  refine KM_intro (lv := [(0, .ref (qh 0)), (1, .int (iI x1))]) false rfl (by decide) (Nat.le_of_ble_eq_true rfl) rfl (fun h => absurd h (by decide)) (fun v ws hq => by obtain ⟨r, N_h, L_h, E_h, rfl, rfl, _⟩ := hq; exact Or.inr (Or.inl ⟨rfl, _, rfl⟩)) (fun A K C => ?_)
  refine k_iload_n C dX7_judge_0 1 rfl rfl 1 rfl ?_
  refine k_iconst C dX7_judge_1 2 rfl ?_
  refine k_iconst C dX7_judge_2 3 rfl ?_
  have hM := c_X7_in (l := l) (D := D) (cI := cI) (cJ := cJ) (cZ := cZ) x1 0 1 _ h
  refine k_callS C dX7_judge_3 hM gX7_judge_X7_in rfl sg_X7_in rfl (Nat.le_of_ble_eq_true rfl) ⟨⟨rfl, rfl⟩, by decide, by decide⟩ ⟨Nat.le_refl 0, Nat.le_refl 0⟩ [] [0, 1, 2, 3, 4, 5, 6, 7, 8, 9, 10, 11, 12, 13, 14, 15, 16] rfl rfl rfl rfl (by decide) 0 0 ⟨rfl, rfl⟩ 6 rfl (fun v w1 hq3 => ?_)
  obtain ⟨r3, rfl, rfl, hb3, h⟩ := hq3
  refine k_perm C [0, 1, 2, 3, 4, 5, 6, 7, 8, 9, 10, 11, 12, 13, 14, 15, 16] [.int (iI r3)] ((wdM cI cJ cZ qh B_h P_h N_h L_h E_h V_h G_h D_h O_h Z_h R_h I_h)) rfl rfl rfl ?_
  obtain ⟨ht, hf⟩ := h
  refine k_if_ne C dX7_judge_6 (by rcases hb3 with rfl | rfl <;> decide) 12 9 (by decide) rfl (fun hc6 => ?_) (fun hc6 => ?_)
  · have h := ht hc6; clear ht hf
    refine k_aload_n C dX7_judge_12 0 rfl rfl 13 rfl ?_
    have hM := c_X7_faultOf (l := l) (D := D) (cI := cI) (cJ := cJ) (cZ := cZ) qh B_h P_h N_h L_h E_h V_h G_h D_h O_h Z_h R_h I_h _ h
    refine k_callV C dX7_judge_13 hM gX7_judge_X7_faultOf rfl sg_X7_faultOf 7 rfl rfl rfl (Nat.le_of_ble_eq_true rfl) ⟨⟨rfl, rfl⟩, by decide, by decide⟩ ⟨Nat.le_refl 0, Nat.le_refl 0⟩ [0, 1, 2, 3, 4, 5, 6, 7, 8, 9, 10, 11, 12, 13, 14, 15, 16] [] rfl rfl rfl rfl (by decide) 0 0 ⟨rfl, rfl⟩ 16 rfl (fun v w1 hq13 => ?_)
    obtain ⟨r13, rfl, rfl, h⟩ := hq13
    refine k_perm C [0, 1, 2, 3, 4, 5, 6, 7, 8, 9, 10, 11, 12, 13, 14, 15, 16] [.int (iI r13)] ((wdM cI cJ cZ qh B_h P_h N_h L_h E_h V_h G_h D_h O_h Z_h R_h I_h)) rfl rfl rfl ?_
    obtain ⟨hr16a, h⟩ := h
    obtain ⟨ht, hf⟩ := h
    refine k_if_lt C dX7_judge_16 hr16a 22 19 (by decide) rfl (fun hc16 => ?_) (fun hc16 => ?_)
    · have h := ht hc16; clear ht hf
      refine k_aload_n C dX7_judge_22 0 rfl rfl 23 rfl ?_
      have hM := c_X7_goYears (l := l) (D := D) (cI := cI) (cJ := cJ) (cZ := cZ) qh B_h P_h N_h L_h E_h V_h G_h D_h O_h Z_h R_h I_h _ h
      refine k_callV C dX7_judge_23 hM gX7_judge_X7_goYears rfl sg_X7_goYears 7 rfl rfl rfl (Nat.le_of_ble_eq_true rfl) ⟨⟨rfl, rfl⟩, by decide, by decide⟩ ⟨Nat.le_refl 0, Nat.le_refl 0⟩ [0, 1, 2, 3, 4, 5, 6, 7, 8, 9, 10, 11, 12, 13, 14, 15, 16] [] rfl rfl rfl rfl (by decide) 0 0 ⟨rfl, rfl⟩ 26 rfl (fun v w1 hq23 => ?_)
      obtain ⟨r23, N_h_23, L_h_23, E_h_23, rfl, rfl, h⟩ := hq23
      refine k_perm C [0, 1, 2, 3, 4, 5, 6, 7, 8, 9, 10, 11, 12, 13, 14, 15, 16] [.int (iI r23)] ((wdM cI cJ cZ qh B_h P_h N_h_23 L_h_23 E_h_23 V_h G_h D_h O_h Z_h R_h I_h)) rfl rfl rfl ?_
      refine k_istore_n C dX7_judge_26 rfl (by decide) [(2, .int (iI r23)), (0, .ref (qh 0)), (1, .int (iI x1))] rfl 27 rfl ?_
      refine k_iload_n C dX7_judge_27 0 rfl rfl 28 rfl ?_
      obtain ⟨hr28a, h⟩ := h
      obtain ⟨ht, hf⟩ := h
      refine k_if_lt C dX7_judge_28 hr28a 35 31 (by decide) rfl (fun hc28 => ?_) (fun hc28 => ?_)
      · have h := ht hc28; clear ht hf
        refine k_iload_n C dX7_judge_35 0 rfl rfl 36 rfl ?_
        refine k_goto C dX7_judge_36 43 (by decide) ?_
        exact k_iret C dX7_judge_43 ⟨r23, N_h_23, L_h_23, E_h_23, rfl, rfl, h⟩
      · have h := hf hc28; clear ht hf
        refine k_iload_n C dX7_judge_31 2 rfl rfl 32 rfl ?_
        obtain ⟨hr32a, h⟩ := h
        obtain ⟨ht, hf⟩ := h
        refine k_if_ne C dX7_judge_32 hr32a 39 35 (by decide) rfl (fun hc32 => ?_) (fun hc32 => ?_)
        · have h := ht hc32; clear ht hf
          refine k_aload_n C dX7_judge_39 1 rfl rfl 40 rfl ?_
          refine k_get C dX7_judge_40 0 rfl (ci := 7) rfl hin_X7_judge_7 14 (by decide) (List.mem_of_getElem? (i := 1) rfl) rfl 43 rfl ?_
          exact k_iret C dX7_judge_43 ⟨E_h_23, N_h_23, L_h_23, E_h_23, rfl, rfl, h⟩
        · have h := hf hc32; clear ht hf
          refine k_iload_n C dX7_judge_35 0 rfl rfl 36 rfl ?_
          refine k_goto C dX7_judge_36 43 (by decide) ?_
          exact k_iret C dX7_judge_43 ⟨r23, N_h_23, L_h_23, E_h_23, rfl, rfl, h⟩
    · have h := hf hc16; clear ht hf
      refine k_bipush C dX7_judge_19 (by decide) 21 rfl ?_
      exact k_iret C dX7_judge_21 ⟨(-5), N_h, L_h, E_h, rfl, rfl, h⟩
  · have h := hf hc6; clear ht hf
    refine k_bipush C dX7_judge_9 (by decide) 11 rfl ?_
    exact k_iret C dX7_judge_11 ⟨(-2), N_h, L_h, E_h, rfl, rfl, h⟩

/-! X7_barOfYears -/
abbrev rm_X7_barOfYears : Room := { frames := 7, cells := 0, slots := 0, locals := 163 }
theorem sg_X7_barOfYears : yX7_barOfYears.cls ≠ "java/lang/invoke/MethodHandle" ∧ yX7_barOfYears.cls ≠ "java/lang/invoke/VarHandle" ∧ (parseMethodDescriptor yX7_barOfYears.desc).map (fun d => d.parameters.length) = some 0 := by decide +kernel
def rp_X7_barOfYears (cI cJ cZ : ClassId) (qh : Nat → Nat) (B_h : gMB) (P_h : gMP) (V_h : gMV) (G_h : gMG) (D_h : gMD) (O_h : gMO) (Z_h : gMZ) (R_h : gMR) (I_h : gMI) (Q : Int → gMN → gML → gME → Prop) : Option Value → va_W → Prop := fun v w1 => ∃ (r : Int) (N_h : gMN) (L_h : gML) (E_h : gME), v = some (.int (iI r)) ∧ w1 = (wdM cI cJ cZ qh B_h P_h N_h L_h E_h V_h G_h D_h O_h Z_h R_h I_h) ∧ Q r N_h L_h E_h
def wp_X7_barOfYears (B_h : gMB) (P_h : gMP) (N_h : gMN) (L_h : gML) (E_h : gME) (D_h : gMD) (Q : Int → gMN → gML → gME → Prop) : Prop :=
    wp_X7_faultOf B_h D_h (fun (r1 : Int) => rI r1 ∧ ((0 ≤ r1 → Q (-5) N_h L_h E_h) ∧ (¬ (0 ≤ r1) → wp_X7_goYears B_h P_h N_h L_h E_h D_h (fun (r8 : Int) (N_h_8 : gMN) (L_h_8 : gML) (E_h_8 : gME) => rI r8 ∧ ((r8 < 0 → Q 0 N_h_8 L_h_8 E_h_8) ∧ (¬ (r8 < 0) → Q (-5) N_h_8 L_h_8 E_h_8))))))

set_option maxHeartbeats 4000000 in
set_option maxRecDepth 20000 in
theorem c_X7_barOfYears {l : Launch} {D : va_G} {cI cJ cZ : ClassId} (qh : Nat → Nat) (B_h : gMB) (P_h : gMP) (N_h : gMN) (L_h : gML) (E_h : gME) (V_h : gMV) (G_h : gMG) (D_h : gMD) (O_h : gMO) (Z_h : gMZ) (R_h : gMR) (I_h : gMI) (Q : Int → gMN → gML → gME → Prop) (h : wp_X7_barOfYears B_h P_h N_h L_h E_h D_h Q) : KM l D (kT cI cJ cZ) 0 0 yX7_barOfYears wsX7_barOfYears rm_X7_barOfYears [.ref (qh 0)] ((wdM cI cJ cZ qh B_h P_h N_h L_h E_h V_h G_h D_h O_h Z_h R_h I_h)) (rp_X7_barOfYears cI cJ cZ qh B_h P_h V_h G_h D_h O_h Z_h R_h I_h Q) := by
  refine KM_intro (lv := [(0, .ref (qh 0))]) false rfl (by decide) (Nat.le_of_ble_eq_true rfl) rfl (fun h => absurd h (by decide)) (fun v ws hq => by obtain ⟨r, N_h, L_h, E_h, rfl, rfl, _⟩ := hq; exact Or.inr (Or.inl ⟨rfl, _, rfl⟩)) (fun A K C => ?_)
  refine k_aload_n C dX7_barOfYears_0 0 rfl rfl 1 rfl ?_
  have hM := c_X7_faultOf (l := l) (D := D) (cI := cI) (cJ := cJ) (cZ := cZ) qh B_h P_h N_h L_h E_h V_h G_h D_h O_h Z_h R_h I_h _ h
  refine k_callV C dX7_barOfYears_1 hM gX7_barOfYears_X7_faultOf rfl sg_X7_faultOf 7 rfl rfl rfl (Nat.le_of_ble_eq_true rfl) ⟨⟨rfl, rfl⟩, by decide, by decide⟩ ⟨Nat.le_refl 0, Nat.le_refl 0⟩ [0, 1, 2, 3, 4, 5, 6, 7, 8, 9, 10, 11, 12, 13, 14, 15, 16] [] rfl rfl rfl rfl (by decide) 0 0 ⟨rfl, rfl⟩ 4 rfl (fun v w1 hq1 => ?_)
  obtain ⟨r1, rfl, rfl, h⟩ := hq1
  refine k_perm C [0, 1, 2, 3, 4, 5, 6, 7, 8, 9, 10, 11, 12, 13, 14, 15, 16] [.int (iI r1)] ((wdM cI cJ cZ qh B_h P_h N_h L_h E_h V_h G_h D_h O_h Z_h R_h I_h)) rfl rfl rfl ?_
  obtain ⟨hr4a, h⟩ := h
  obtain ⟨ht, hf⟩ := h
  refine k_if_ge C dX7_barOfYears_4 hr4a 14 7 (by decide) rfl (fun hc4 => ?_) (fun hc4 => ?_)
  · have h := ht hc4; clear ht hf
    refine k_bipush C dX7_barOfYears_14 (by decide) 16 rfl ?_
    refine k_goto C dX7_barOfYears_16 20 (by decide) ?_
    exact k_iret C dX7_barOfYears_20 ⟨(-5), N_h, L_h, E_h, rfl, rfl, h⟩
  · have h := hf hc4; clear ht hf
    refine k_aload_n C dX7_barOfYears_7 0 rfl rfl 8 rfl ?_
    have hM := c_X7_goYears (l := l) (D := D) (cI := cI) (cJ := cJ) (cZ := cZ) qh B_h P_h N_h L_h E_h V_h G_h D_h O_h Z_h R_h I_h _ h
    refine k_callV C dX7_barOfYears_8 hM gX7_barOfYears_X7_goYears rfl sg_X7_goYears 7 rfl rfl rfl (Nat.le_of_ble_eq_true rfl) ⟨⟨rfl, rfl⟩, by decide, by decide⟩ ⟨Nat.le_refl 0, Nat.le_refl 0⟩ [0, 1, 2, 3, 4, 5, 6, 7, 8, 9, 10, 11, 12, 13, 14, 15, 16] [] rfl rfl rfl rfl (by decide) 0 0 ⟨rfl, rfl⟩ 11 rfl (fun v w1 hq8 => ?_)
    obtain ⟨r8, N_h_8, L_h_8, E_h_8, rfl, rfl, h⟩ := hq8
    refine k_perm C [0, 1, 2, 3, 4, 5, 6, 7, 8, 9, 10, 11, 12, 13, 14, 15, 16] [.int (iI r8)] ((wdM cI cJ cZ qh B_h P_h N_h_8 L_h_8 E_h_8 V_h G_h D_h O_h Z_h R_h I_h)) rfl rfl rfl ?_
    obtain ⟨hr11a, h⟩ := h
    obtain ⟨ht, hf⟩ := h
    refine k_if_lt C dX7_barOfYears_11 hr11a 19 14 (by decide) rfl (fun hc11 => ?_) (fun hc11 => ?_)
    · have h := ht hc11; clear ht hf
      refine k_iconst C dX7_barOfYears_19 20 rfl ?_
      exact k_iret C dX7_barOfYears_20 ⟨0, N_h_8, L_h_8, E_h_8, rfl, rfl, h⟩
    · have h := hf hc11; clear ht hf
      refine k_bipush C dX7_barOfYears_14 (by decide) 16 rfl ?_
      refine k_goto C dX7_barOfYears_16 20 (by decide) ?_
      exact k_iret C dX7_barOfYears_20 ⟨(-5), N_h_8, L_h_8, E_h_8, rfl, rfl, h⟩

/-! X7_done -/
abbrev rm_X7_done : Room := { frames := 8, cells := 0, slots := 0, locals := 183 }
theorem sg_X7_done : yX7_done.cls ≠ "java/lang/invoke/MethodHandle" ∧ yX7_done.cls ≠ "java/lang/invoke/VarHandle" ∧ (parseMethodDescriptor yX7_done.desc).map (fun d => d.parameters.length) = some 0 := by decide +kernel
theorem hin_X7_done_7 : ∀ w ∈ wsX70, w ∈ wsX7_done := fun _ h => List.mem_cons_of_mem _ (List.mem_append_right _ h)
def rp_X7_done (cI cJ cZ : ClassId) (qh : Nat → Nat) (B_h : gMB) (V_h : gMV) (G_h : gMG) (O_h : gMO) (Z_h : gMZ) (R_h : gMR) (I_h : gMI) (Q : Int → gMP → gMN → gML → gME → gMD → Prop) : Option Value → va_W → Prop := fun v w1 => ∃ (r : Int) (P_h : gMP) (N_h : gMN) (L_h : gML) (E_h : gME) (D_h : gMD), v = some (.int (iI r)) ∧ w1 = (wdM cI cJ cZ qh B_h P_h N_h L_h E_h V_h G_h D_h O_h Z_h R_h I_h) ∧ Q r P_h N_h L_h E_h D_h
def wp_X7_done_12 (K_48 : gMP → gMN → gML → gME → gMD → Prop)  (Q : Int → gMP → gMN → gML → gME → gMD → Prop) : Nat → Int → gMP → gMN → gML → gME → gMD → Prop
  | 0, _, _, _, _, _, _ => False
  | n12 + 1, x1, P_h, N_h, L_h, E_h, D_h =>
    rI x1 ∧ ((10 ≤ x1 → K_48 P_h N_h L_h E_h D_h) ∧ (¬ (10 ≤ x1) → (0 ≤ x1 ∧ x1 < 10) ∧ wp_X7_done_12 K_48 Q n12 (x1 + 1) (aset P_h.1 x1 (N_h.1 x1), aset P_h.2 x1 (N_h.2 x1)) N_h L_h E_h D_h))
def wp_X7_done (B_h : gMB) (P_h : gMP) (N_h : gMN) (L_h : gML) (E_h : gME) (D_h : gMD) (Q : Int → gMP → gMN → gML → gME → gMD → Prop) : Prop :=
    wp_X7_barOfYears B_h P_h N_h L_h E_h D_h (fun (r1 : Int) (N_h_1 : gMN) (L_h_1 : gML) (E_h_1 : gME) => rI r1 ∧ ((0 ≤ r1 → ∃ m12, wp_X7_done_12 (fun (P_h : gMP) (N_h : gMN) (L_h : gML) (E_h : gME) (D_h : gMD) => rI D_h.1 ∧ Q (D_h.1.tdiv 2) P_h N_h L_h E_h (0, D_h.2)) Q m12 0 P_h N_h_1 L_h_1 E_h_1 D_h) ∧ (¬ (0 ≤ r1) → Q (-5) P_h N_h_1 L_h_1 E_h_1 D_h)))
set_option maxHeartbeats 4000000 in
set_option maxRecDepth 20000 in
theorem w_X7_done_12 {l : Launch} {D : va_G} {cI cJ cZ : ClassId} {A : Nat → Prop} {K : KT} {qh : Nat → Nat} {B_h : gMB} {V_h : gMV} {G_h : gMG} {O_h : gMO} {Z_h : gMZ} {R_h : gMR} {I_h : gMI} {Q : Int → gMP → gMN → gML → gME → gMD → Prop} {K_48 : gMP → gMN → gML → gME → gMD → Prop} (C : KC cX7_done yX7_done.cls wsX7_done rm_X7_done 2 D (kT cI cJ cZ) A l false (rp_X7_done cI cJ cZ qh B_h V_h G_h O_h Z_h R_h I_h Q) 0 0 K) : ∀ (n : Nat) (x1 : Int) (P_h : gMP) (N_h : gMN) (L_h : gML) (E_h : gME) (D_h : gMD), wp_X7_done_12 K_48 Q n x1 P_h N_h L_h E_h D_h → (∀ (P_h : gMP) (N_h : gMN) (L_h : gML) (E_h : gME) (D_h : gMD), K_48 P_h N_h L_h E_h D_h → K 0 0 48 [(0, .ref (qh 0))] [] ((wdM cI cJ cZ qh B_h P_h N_h L_h E_h V_h G_h D_h O_h Z_h R_h I_h))) → K 0 0 12 [(0, .ref (qh 0)), (1, .int (iI x1))] [] ((wdM cI cJ cZ qh B_h P_h N_h L_h E_h V_h G_h D_h O_h Z_h R_h I_h)) := by
  intro n
  induction n with
  | zero => intro x1 P_h N_h L_h E_h D_h h; exact h.elim
  | succ n ih =>
    intro x1 P_h N_h L_h E_h D_h h hK_48
    refine k_iload_n C dX7_done_12 1 rfl rfl 13 rfl ?_
    refine k_bipush C dX7_done_13 (by decide) 15 rfl ?_
    obtain ⟨hr15a, h⟩ := h
    obtain ⟨ht, hf⟩ := h
    refine k_icmp_ge C dX7_done_15 ⟨hr15a, (by decide)⟩ 48 18 (by decide) rfl (fun hc15 => ?_) (fun hc15 => ?_)
    · have h := ht hc15; clear ht hf
      refine k_lv C [0] [(0, .ref (qh 0))] rfl ?_
      exact hK_48 P_h N_h L_h E_h D_h h
    · have h := hf hc15; clear ht hf
      refine k_aload_n C dX7_done_18 0 rfl rfl 19 rfl ?_
      refine k_get C dX7_done_19 0 rfl (ci := 7) rfl hin_X7_done_7 5 (by decide) (List.mem_of_getElem? (i := 1) rfl) rfl 22 rfl ?_
      refine k_iload_n C dX7_done_22 1 rfl rfl 23 rfl ?_
      refine k_aload_n C dX7_done_23 0 rfl rfl 24 rfl ?_
      refine k_get C dX7_done_24 0 rfl (ci := 7) rfl hin_X7_done_7 11 (by decide) (List.mem_of_getElem? (i := 2) rfl) rfl 27 rfl ?_
      refine k_iload_n C dX7_done_27 1 rfl rfl 28 rfl ?_
      obtain ⟨hi28, h⟩ := h
      refine k_iaload C dX7_done_28 8 0 rfl rfl (by decide) hi28 29 rfl ?_
      refine k_iastore C dX7_done_29 4 0 rfl rfl (by decide) hi28 ((wdM cI cJ cZ qh B_h (aset P_h.1 x1 (N_h.1 x1), P_h.2) N_h L_h E_h V_h G_h D_h O_h Z_h R_h I_h)) rfl 30 rfl ?_
      refine k_aload_n C dX7_done_30 0 rfl rfl 31 rfl ?_
      refine k_get C dX7_done_31 0 rfl (ci := 7) rfl hin_X7_done_7 6 (by decide) (List.mem_of_getElem? (i := 3) rfl) rfl 34 rfl ?_
      refine k_iload_n C dX7_done_34 1 rfl rfl 35 rfl ?_
      refine k_aload_n C dX7_done_35 0 rfl rfl 36 rfl ?_
      refine k_get C dX7_done_36 0 rfl (ci := 7) rfl hin_X7_done_7 12 (by decide) (List.mem_of_getElem? (i := 4) rfl) rfl 39 rfl ?_
      refine k_iload_n C dX7_done_39 1 rfl rfl 40 rfl ?_
      refine k_iaload C dX7_done_40 9 0 rfl rfl (by decide) hi28 41 rfl ?_
      refine k_iastore C dX7_done_41 5 0 rfl rfl (by decide) hi28 ((wdM cI cJ cZ qh B_h (aset P_h.1 x1 (N_h.1 x1), aset P_h.2 x1 (N_h.2 x1)) N_h L_h E_h V_h G_h D_h O_h Z_h R_h I_h)) rfl 42 rfl ?_
      refine k_iinc (j := 1) C dX7_done_42 rfl (by decide) [(1, .int (iI (x1 + 1))), (0, .ref (qh 0))] rfl 45 rfl ?_
      refine k_goto C dX7_done_45 12 (by decide) ?_
      refine k_lv C [1, 0] [(0, .ref (qh 0)), (1, .int (iI (x1 + 1)))] rfl ?_
      exact ih (x1 + 1) (aset P_h.1 x1 (N_h.1 x1), aset P_h.2 x1 (N_h.2 x1)) N_h L_h E_h D_h h hK_48
set_option maxHeartbeats 4000000 in
set_option maxRecDepth 20000 in
theorem c_X7_done {l : Launch} {D : va_G} {cI cJ cZ : ClassId} (qh : Nat → Nat) (B_h : gMB) (P_h : gMP) (N_h : gMN) (L_h : gML) (E_h : gME) (V_h : gMV) (G_h : gMG) (D_h : gMD) (O_h : gMO) (Z_h : gMZ) (R_h : gMR) (I_h : gMI) (Q : Int → gMP → gMN → gML → gME → gMD → Prop) (h : wp_X7_done B_h P_h N_h L_h E_h D_h Q) : KM l D (kT cI cJ cZ) 0 0 yX7_done wsX7_done rm_X7_done [.ref (qh 0)] ((wdM cI cJ cZ qh B_h P_h N_h L_h E_h V_h G_h D_h O_h Z_h R_h I_h)) (rp_X7_done cI cJ cZ qh B_h V_h G_h O_h Z_h R_h I_h Q) := by
  refine KM_intro (lv := [(0, .ref (qh 0))]) false rfl (by decide) (Nat.le_of_ble_eq_true rfl) rfl (fun h => absurd h (by decide)) (fun v ws hq => by obtain ⟨r, P_h, N_h, L_h, E_h, D_h, rfl, rfl, _⟩ := hq; exact Or.inr (Or.inl ⟨rfl, _, rfl⟩)) (fun A K C => ?_)
  refine k_aload_n C dX7_done_0 0 rfl rfl 1 rfl ?_
  have hM := c_X7_barOfYears (l := l) (D := D) (cI := cI) (cJ := cJ) (cZ := cZ) qh B_h P_h N_h L_h E_h V_h G_h D_h O_h Z_h R_h I_h _ h
  refine k_callV C dX7_done_1 hM gX7_done_X7_barOfYears rfl sg_X7_barOfYears 7 rfl rfl rfl (Nat.le_of_ble_eq_true rfl) ⟨⟨rfl, rfl⟩, by decide, by decide⟩ ⟨Nat.le_refl 0, Nat.le_refl 0⟩ [0, 1, 2, 3, 4, 5, 6, 7, 8, 9, 10, 11, 12, 13, 14, 15, 16] [] rfl rfl rfl rfl (by decide) 0 0 ⟨rfl, rfl⟩ 4 rfl (fun v w1 hq1 => ?_)
  obtain ⟨r1, N_h_1, L_h_1, E_h_1, rfl, rfl, h⟩ := hq1
  refine k_perm C [0, 1, 2, 3, 4, 5, 6, 7, 8, 9, 10, 11, 12, 13, 14, 15, 16] [.int (iI r1)] ((wdM cI cJ cZ qh B_h P_h N_h_1 L_h_1 E_h_1 V_h G_h D_h O_h Z_h R_h I_h)) rfl rfl rfl ?_
  obtain ⟨hr4a, h⟩ := h
  obtain ⟨ht, hf⟩ := h
  refine k_if_ge C dX7_done_4 hr4a 10 7 (by decide) rfl (fun hc4 => ?_) (fun hc4 => ?_)
  · have h := ht hc4; clear ht hf
    refine k_iconst C dX7_done_10 11 rfl ?_
    refine k_istore_n C dX7_done_11 rfl (by decide) [(1, .int (iI 0)), (0, .ref (qh 0))] rfl 12 rfl ?_
    refine k_lv C [1, 0] [(0, .ref (qh 0)), (1, .int (iI 0))] rfl ?_
    obtain ⟨m12, h⟩ := h
    refine w_X7_done_12 C m12 0 P_h N_h_1 L_h_1 E_h_1 D_h h (fun P_h N_h L_h E_h D_h h => ?_)
    · refine k_aload_n C dX7_done_48 0 rfl rfl 49 rfl ?_
      refine k_get C dX7_done_49 0 rfl (ci := 7) rfl hin_X7_done_7 9 (by decide) (List.mem_of_getElem? (i := 5) rfl) rfl 52 rfl ?_
      refine k_iconst C dX7_done_52 53 rfl ?_
      obtain ⟨hr53a, h⟩ := h
      refine k_idiv C dX7_done_53 ⟨hr53a, (by decide), (by decide)⟩ 54 rfl ?_
      refine k_istore_n C dX7_done_54 rfl (by decide) [(1, .int (iI (D_h.1.tdiv 2))), (0, .ref (qh 0))] rfl 55 rfl ?_
      refine k_aload_n C dX7_done_55 1 rfl rfl 56 rfl ?_
      refine k_iconst C dX7_done_56 57 rfl ?_
      refine k_put C dX7_done_57 0 rfl (ci := 7) rfl hin_X7_done_7 tyX7_ok nmX7 9 (by decide) (List.mem_of_getElem? (i := 5) rfl) rfl rfl rfl (Nat.le_of_ble_eq_true rfl) ((wdM cI cJ cZ qh B_h P_h N_h L_h E_h V_h G_h (0, D_h.2) O_h Z_h R_h I_h)) rfl 60 rfl ?_
      refine k_iload_n C dX7_done_60 0 rfl rfl 61 rfl ?_
      exact k_iret C dX7_done_61 ⟨D_h.1.tdiv 2, P_h, N_h, L_h, E_h, (0, D_h.2), rfl, rfl, h⟩
  · have h := hf hc4; clear ht hf
    refine k_bipush C dX7_done_7 (by decide) 9 rfl ?_
    exact k_iret C dX7_done_9 ⟨(-5), P_h, N_h_1, L_h_1, E_h_1, D_h, rfl, rfl, h⟩

/-! X7_state -/
abbrev rm_X7_state : Room := { frames := 1, cells := 0, slots := 0, locals := 22 }
theorem sg_X7_state : yX7_state.cls ≠ "java/lang/invoke/MethodHandle" ∧ yX7_state.cls ≠ "java/lang/invoke/VarHandle" ∧ (parseMethodDescriptor yX7_state.desc).map (fun d => d.parameters.length) = some 2 := by decide +kernel
theorem hin_X7_state_7 : ∀ w ∈ wsX70, w ∈ wsX7_state := fun _ h => List.mem_cons_of_mem _ (List.mem_append_right _ h)
def rp_X7_state (cI cJ cZ : ClassId) (qh : Nat → Nat) (B_h : gMB) (P_h : gMP) (N_h : gMN) (L_h : gML) (E_h : gME) (V_h : gMV) (G_h : gMG) (D_h : gMD) (O_h : gMO) (Z_h : gMZ) (R_h : gMR) (I_h : gMI) (Q : Int → Prop) : Option Value → va_W → Prop := fun v w1 => ∃ (r : Int), v = some (.int (iI r)) ∧ w1 = (wdM cI cJ cZ qh B_h P_h N_h L_h E_h V_h G_h D_h O_h Z_h R_h I_h) ∧ Q r
def wp_X7_state (P_h : gMP) (x1 : Int) (x2 : Int) (Q : Int → Prop) : Prop :=
    wp_X7_in x1 0 9 (fun (r4 : Int) => ((¬ r4 = 0 → rI x2 ∧ ((¬ x2 = 0 → ((¬ x2 = 1 → Q (-2)) ∧ (¬ (¬ x2 = 1) → (0 ≤ x1 ∧ x1 < 10) ∧ Q (P_h.2 x1)))) ∧ (¬ (¬ x2 = 0) → (0 ≤ x1 ∧ x1 < 10) ∧ Q (P_h.1 x1)))) ∧ (¬ (¬ r4 = 0) → Q (-1))))

set_option maxHeartbeats 4000000 in
set_option maxRecDepth 20000 in
theorem c_X7_state {l : Launch} {D : va_G} {cI cJ cZ : ClassId} (qh : Nat → Nat) (B_h : gMB) (P_h : gMP) (N_h : gMN) (L_h : gML) (E_h : gME) (V_h : gMV) (G_h : gMG) (D_h : gMD) (O_h : gMO) (Z_h : gMZ) (R_h : gMR) (I_h : gMI) (x1 : Int) (x2 : Int) (Q : Int → Prop) (h : wp_X7_state P_h x1 x2 Q) : KM l D (kT cI cJ cZ) 0 0 yX7_state wsX7_state rm_X7_state [.ref (qh 0), .int (iI x1), .int (iI x2)] ((wdM cI cJ cZ qh B_h P_h N_h L_h E_h V_h G_h D_h O_h Z_h R_h I_h)) (rp_X7_state cI cJ cZ qh B_h P_h N_h L_h E_h V_h G_h D_h O_h Z_h R_h I_h Q) := by
  refine KM_intro (lv := [(0, .ref (qh 0)), (1, .int (iI x1)), (2, .int (iI x2))]) false rfl (by decide) (Nat.le_of_ble_eq_true rfl) rfl (fun h => absurd h (by decide)) (fun v ws hq => by obtain ⟨r, rfl, rfl, _⟩ := hq; exact Or.inr (Or.inl ⟨rfl, _, rfl⟩)) (fun A K C => ?_)
  refine k_iload_n C dX7_state_0 1 rfl rfl 1 rfl ?_
  refine k_iconst C dX7_state_1 2 rfl ?_
  refine k_bipush C dX7_state_2 (by decide) 4 rfl ?_
  have hM := c_X7_in (l := l) (D := D) (cI := cI) (cJ := cJ) (cZ := cZ) x1 0 9 _ h
  refine k_callS C dX7_state_4 hM gX7_state_X7_in rfl sg_X7_in rfl (Nat.le_of_ble_eq_true rfl) ⟨⟨rfl, rfl⟩, by decide, by decide⟩ ⟨Nat.le_refl 0, Nat.le_refl 0⟩ [] [0, 1, 2, 3, 4, 5, 6, 7, 8, 9, 10, 11, 12, 13, 14, 15, 16] rfl rfl rfl rfl (by decide) 0 0 ⟨rfl, rfl⟩ 7 rfl (fun v w1 hq4 => ?_)
  obtain ⟨r4, rfl, rfl, hb4, h⟩ := hq4
  refine k_perm C [0, 1, 2, 3, 4, 5, 6, 7, 8, 9, 10, 11, 12, 13, 14, 15, 16] [.int (iI r4)] ((wdM cI cJ cZ qh B_h P_h N_h L_h E_h V_h G_h D_h O_h Z_h R_h I_h)) rfl rfl rfl ?_
  obtain ⟨ht, hf⟩ := h
  refine k_if_ne C dX7_state_7 (by rcases hb4 with rfl | rfl <;> decide) 12 10 (by decide) rfl (fun hc7 => ?_) (fun hc7 => ?_)
  · have h := ht hc7; clear ht hf
    refine k_iload_n C dX7_state_12 2 rfl rfl 13 rfl ?_
    obtain ⟨hr13a, h⟩ := h
    obtain ⟨ht, hf⟩ := h
    refine k_if_ne C dX7_state_13 hr13a 25 16 (by decide) rfl (fun hc13 => ?_) (fun hc13 => ?_)
    · have h := ht hc13; clear ht hf
      refine k_iload_n C dX7_state_25 2 rfl rfl 26 rfl ?_
      refine k_iconst C dX7_state_26 27 rfl ?_
      obtain ⟨ht, hf⟩ := h
      refine k_icmp_ne C dX7_state_27 ⟨hr13a, (by decide)⟩ 39 30 (by decide) rfl (fun hc27 => ?_) (fun hc27 => ?_)
      · have h := ht hc27; clear ht hf
        refine k_bipush C dX7_state_39 (by decide) 41 rfl ?_
        exact k_iret C dX7_state_41 ⟨(-2), rfl, rfl, h⟩
      · have h := hf hc27; clear ht hf
        refine k_aload_n C dX7_state_30 0 rfl rfl 31 rfl ?_
        refine k_get C dX7_state_31 0 rfl (ci := 7) rfl hin_X7_state_7 6 (by decide) (List.mem_of_getElem? (i := 2) rfl) rfl 34 rfl ?_
        refine k_iload_n C dX7_state_34 1 rfl rfl 35 rfl ?_
        obtain ⟨hi35, h⟩ := h
        refine k_iaload C dX7_state_35 5 0 rfl rfl (by decide) hi35 36 rfl ?_
        refine k_goto C dX7_state_36 41 (by decide) ?_
        exact k_iret C dX7_state_41 ⟨P_h.2 x1, rfl, rfl, h⟩
    · have h := hf hc13; clear ht hf
      refine k_aload_n C dX7_state_16 0 rfl rfl 17 rfl ?_
      refine k_get C dX7_state_17 0 rfl (ci := 7) rfl hin_X7_state_7 5 (by decide) (List.mem_of_getElem? (i := 1) rfl) rfl 20 rfl ?_
      refine k_iload_n C dX7_state_20 1 rfl rfl 21 rfl ?_
      obtain ⟨hi21, h⟩ := h
      refine k_iaload C dX7_state_21 4 0 rfl rfl (by decide) hi21 22 rfl ?_
      refine k_goto C dX7_state_22 41 (by decide) ?_
      exact k_iret C dX7_state_41 ⟨P_h.1 x1, rfl, rfl, h⟩
  · have h := hf hc7; clear ht hf
    refine k_iconst C dX7_state_10 11 rfl ?_
    exact k_iret C dX7_state_11 ⟨(-1), rfl, rfl, h⟩

/-! X7_behind -/
abbrev rm_X7_behind : Room := { frames := 8, cells := 0, slots := 0, locals := 183 }
theorem sg_X7_behind : yX7_behind.cls ≠ "java/lang/invoke/MethodHandle" ∧ yX7_behind.cls ≠ "java/lang/invoke/VarHandle" ∧ (parseMethodDescriptor yX7_behind.desc).map (fun d => d.parameters.length) = some 2 := by decide +kernel
theorem hin_X7_behind_7 : ∀ w ∈ wsX70, w ∈ wsX7_behind := fun _ h => List.mem_cons_of_mem _ (List.mem_append_right _ h)
def rp_X7_behind (cI cJ cZ : ClassId) (qh : Nat → Nat) (B_h : gMB) (P_h : gMP) (V_h : gMV) (G_h : gMG) (D_h : gMD) (O_h : gMO) (Z_h : gMZ) (R_h : gMR) (I_h : gMI) (Q : Int → gMN → gML → gME → Prop) : Option Value → va_W → Prop := fun v w1 => ∃ (r : Int) (N_h : gMN) (L_h : gML) (E_h : gME), v = some (.int (iI r)) ∧ w1 = (wdM cI cJ cZ qh B_h P_h N_h L_h E_h V_h G_h D_h O_h Z_h R_h I_h) ∧ Q r N_h L_h E_h
def wp_X7_behind (B_h : gMB) (P_h : gMP) (N_h : gMN) (L_h : gML) (E_h : gME) (D_h : gMD) (x1 : Int) (x2 : Int) (Q : Int → gMN → gML → gME → Prop) : Prop :=
    wp_X7_in x1 0 9 (fun (r4 : Int) => ((¬ r4 = 0 → wp_X7_in x2 0 1 (fun (r15 : Int) => ((¬ r15 = 0 → wp_X7_barOfYears B_h P_h N_h L_h E_h D_h (fun (r25 : Int) (N_h_25 : gMN) (L_h_25 : gML) (E_h_25 : gME) => rI r25 ∧ ((0 ≤ r25 → rI x2 ∧ ((¬ x2 = 0 → (0 ≤ x1 ∧ x1 < 10) ∧ Q (N_h_25.2 x1) N_h_25 L_h_25 E_h_25) ∧ (¬ (¬ x2 = 0) → (0 ≤ x1 ∧ x1 < 10) ∧ Q (N_h_25.1 x1) N_h_25 L_h_25 E_h_25))) ∧ (¬ (0 ≤ r25) → Q (-5) N_h_25 L_h_25 E_h_25)))) ∧ (¬ (¬ r15 = 0) → Q (-2) N_h L_h E_h)))) ∧ (¬ (¬ r4 = 0) → Q (-1) N_h L_h E_h)))

set_option maxHeartbeats 4000000 in
set_option maxRecDepth 20000 in
theorem c_X7_behind {l : Launch} {D : va_G} {cI cJ cZ : ClassId} (qh : Nat → Nat) (B_h : gMB) (P_h : gMP) (N_h : gMN) (L_h : gML) (E_h : gME) (V_h : gMV) (G_h : gMG) (D_h : gMD) (O_h : gMO) (Z_h : gMZ) (R_h : gMR) (I_h : gMI) (x1 : Int) (x2 : Int) (Q : Int → gMN → gML → gME → Prop) (h : wp_X7_behind B_h P_h N_h L_h E_h D_h x1 x2 Q) : KM l D (kT cI cJ cZ) 0 0 yX7_behind wsX7_behind rm_X7_behind [.ref (qh 0), .int (iI x1), .int (iI x2)] ((wdM cI cJ cZ qh B_h P_h N_h L_h E_h V_h G_h D_h O_h Z_h R_h I_h)) (rp_X7_behind cI cJ cZ qh B_h P_h V_h G_h D_h O_h Z_h R_h I_h Q) := by
  refine KM_intro (lv := [(0, .ref (qh 0)), (1, .int (iI x1)), (2, .int (iI x2))]) false rfl (by decide) (Nat.le_of_ble_eq_true rfl) rfl (fun h => absurd h (by decide)) (fun v ws hq => by obtain ⟨r, N_h, L_h, E_h, rfl, rfl, _⟩ := hq; exact Or.inr (Or.inl ⟨rfl, _, rfl⟩)) (fun A K C => ?_)
  refine k_iload_n C dX7_behind_0 1 rfl rfl 1 rfl ?_
  refine k_iconst C dX7_behind_1 2 rfl ?_
  refine k_bipush C dX7_behind_2 (by decide) 4 rfl ?_
  have hM := c_X7_in (l := l) (D := D) (cI := cI) (cJ := cJ) (cZ := cZ) x1 0 9 _ h
  refine k_callS C dX7_behind_4 hM gX7_behind_X7_in rfl sg_X7_in rfl (Nat.le_of_ble_eq_true rfl) ⟨⟨rfl, rfl⟩, by decide, by decide⟩ ⟨Nat.le_refl 0, Nat.le_refl 0⟩ [] [0, 1, 2, 3, 4, 5, 6, 7, 8, 9, 10, 11, 12, 13, 14, 15, 16] rfl rfl rfl rfl (by decide) 0 0 ⟨rfl, rfl⟩ 7 rfl (fun v w1 hq4 => ?_)
  obtain ⟨r4, rfl, rfl, hb4, h⟩ := hq4
  refine k_perm C [0, 1, 2, 3, 4, 5, 6, 7, 8, 9, 10, 11, 12, 13, 14, 15, 16] [.int (iI r4)] ((wdM cI cJ cZ qh B_h P_h N_h L_h E_h V_h G_h D_h O_h Z_h R_h I_h)) rfl rfl rfl ?_
  obtain ⟨ht, hf⟩ := h
  refine k_if_ne C dX7_behind_7 (by rcases hb4 with rfl | rfl <;> decide) 12 10 (by decide) rfl (fun hc7 => ?_) (fun hc7 => ?_)
  · have h := ht hc7; clear ht hf
    refine k_iload_n C dX7_behind_12 2 rfl rfl 13 rfl ?_
    refine k_iconst C dX7_behind_13 14 rfl ?_
    refine k_iconst C dX7_behind_14 15 rfl ?_
    have hM := c_X7_in (l := l) (D := D) (cI := cI) (cJ := cJ) (cZ := cZ) x2 0 1 _ h
    refine k_callS C dX7_behind_15 hM gX7_behind_X7_in rfl sg_X7_in rfl (Nat.le_of_ble_eq_true rfl) ⟨⟨rfl, rfl⟩, by decide, by decide⟩ ⟨Nat.le_refl 0, Nat.le_refl 0⟩ [] [0, 1, 2, 3, 4, 5, 6, 7, 8, 9, 10, 11, 12, 13, 14, 15, 16] rfl rfl rfl rfl (by decide) 0 0 ⟨rfl, rfl⟩ 18 rfl (fun v w1 hq15 => ?_)
    obtain ⟨r15, rfl, rfl, hb15, h⟩ := hq15
    refine k_perm C [0, 1, 2, 3, 4, 5, 6, 7, 8, 9, 10, 11, 12, 13, 14, 15, 16] [.int (iI r15)] ((wdM cI cJ cZ qh B_h P_h N_h L_h E_h V_h G_h D_h O_h Z_h R_h I_h)) rfl rfl rfl ?_
    obtain ⟨ht, hf⟩ := h
    refine k_if_ne C dX7_behind_18 (by rcases hb15 with rfl | rfl <;> decide) 24 21 (by decide) rfl (fun hc18 => ?_) (fun hc18 => ?_)
    · have h := ht hc18; clear ht hf
      refine k_aload_n C dX7_behind_24 0 rfl rfl 25 rfl ?_
      have hM := c_X7_barOfYears (l := l) (D := D) (cI := cI) (cJ := cJ) (cZ := cZ) qh B_h P_h N_h L_h E_h V_h G_h D_h O_h Z_h R_h I_h _ h
      refine k_callV C dX7_behind_25 hM gX7_behind_X7_barOfYears rfl sg_X7_barOfYears 7 rfl rfl rfl (Nat.le_of_ble_eq_true rfl) ⟨⟨rfl, rfl⟩, by decide, by decide⟩ ⟨Nat.le_refl 0, Nat.le_refl 0⟩ [0, 1, 2, 3, 4, 5, 6, 7, 8, 9, 10, 11, 12, 13, 14, 15, 16] [] rfl rfl rfl rfl (by decide) 0 0 ⟨rfl, rfl⟩ 28 rfl (fun v w1 hq25 => ?_)
      obtain ⟨r25, N_h_25, L_h_25, E_h_25, rfl, rfl, h⟩ := hq25
      refine k_perm C [0, 1, 2, 3, 4, 5, 6, 7, 8, 9, 10, 11, 12, 13, 14, 15, 16] [.int (iI r25)] ((wdM cI cJ cZ qh B_h P_h N_h_25 L_h_25 E_h_25 V_h G_h D_h O_h Z_h R_h I_h)) rfl rfl rfl ?_
      obtain ⟨hr28a, h⟩ := h
      obtain ⟨ht, hf⟩ := h
      refine k_if_ge C dX7_behind_28 hr28a 34 31 (by decide) rfl (fun hc28 => ?_) (fun hc28 => ?_)
      · have h := ht hc28; clear ht hf
        refine k_iload_n C dX7_behind_34 2 rfl rfl 35 rfl ?_
        obtain ⟨hr35a, h⟩ := h
        obtain ⟨ht, hf⟩ := h
        refine k_if_ne C dX7_behind_35 hr35a 47 38 (by decide) rfl (fun hc35 => ?_) (fun hc35 => ?_)
        · have h := ht hc35; clear ht hf
          refine k_aload_n C dX7_behind_47 0 rfl rfl 48 rfl ?_
          refine k_get C dX7_behind_48 0 rfl (ci := 7) rfl hin_X7_behind_7 12 (by decide) (List.mem_of_getElem? (i := 2) rfl) rfl 51 rfl ?_
          refine k_iload_n C dX7_behind_51 1 rfl rfl 52 rfl ?_
          obtain ⟨hi52, h⟩ := h
          refine k_iaload C dX7_behind_52 9 0 rfl rfl (by decide) hi52 53 rfl ?_
          exact k_iret C dX7_behind_53 ⟨N_h_25.2 x1, N_h_25, L_h_25, E_h_25, rfl, rfl, h⟩
        · have h := hf hc35; clear ht hf
          refine k_aload_n C dX7_behind_38 0 rfl rfl 39 rfl ?_
          refine k_get C dX7_behind_39 0 rfl (ci := 7) rfl hin_X7_behind_7 11 (by decide) (List.mem_of_getElem? (i := 1) rfl) rfl 42 rfl ?_
          refine k_iload_n C dX7_behind_42 1 rfl rfl 43 rfl ?_
          obtain ⟨hi43, h⟩ := h
          refine k_iaload C dX7_behind_43 8 0 rfl rfl (by decide) hi43 44 rfl ?_
          refine k_goto C dX7_behind_44 53 (by decide) ?_
          exact k_iret C dX7_behind_53 ⟨N_h_25.1 x1, N_h_25, L_h_25, E_h_25, rfl, rfl, h⟩
      · have h := hf hc28; clear ht hf
        refine k_bipush C dX7_behind_31 (by decide) 33 rfl ?_
        exact k_iret C dX7_behind_33 ⟨(-5), N_h_25, L_h_25, E_h_25, rfl, rfl, h⟩
    · have h := hf hc18; clear ht hf
      refine k_bipush C dX7_behind_21 (by decide) 23 rfl ?_
      exact k_iret C dX7_behind_23 ⟨(-2), N_h, L_h, E_h, rfl, rfl, h⟩
  · have h := hf hc7; clear ht hf
    refine k_iconst C dX7_behind_10 11 rfl ?_
    exact k_iret C dX7_behind_11 ⟨(-1), N_h, L_h, E_h, rfl, rfl, h⟩

/-! X7_height -/
abbrev rm_X7_height : Room := { frames := 8, cells := 0, slots := 0, locals := 183 }
theorem sg_X7_height : yX7_height.cls ≠ "java/lang/invoke/MethodHandle" ∧ yX7_height.cls ≠ "java/lang/invoke/VarHandle" ∧ (parseMethodDescriptor yX7_height.desc).map (fun d => d.parameters.length) = some 1 := by decide +kernel
theorem hin_X7_height_7 : ∀ w ∈ wsX70, w ∈ wsX7_height := fun _ h => List.mem_cons_of_mem _ (List.mem_append_right _ h)
def rp_X7_height (cI cJ cZ : ClassId) (qh : Nat → Nat) (B_h : gMB) (P_h : gMP) (V_h : gMV) (G_h : gMG) (D_h : gMD) (O_h : gMO) (Z_h : gMZ) (R_h : gMR) (I_h : gMI) (Q : Int → gMN → gML → gME → Prop) : Option Value → va_W → Prop := fun v w1 => ∃ (r : Int) (N_h : gMN) (L_h : gML) (E_h : gME), v = some (.int (iI r)) ∧ w1 = (wdM cI cJ cZ qh B_h P_h N_h L_h E_h V_h G_h D_h O_h Z_h R_h I_h) ∧ Q r N_h L_h E_h
def wp_X7_height (B_h : gMB) (P_h : gMP) (N_h : gMN) (L_h : gML) (E_h : gME) (D_h : gMD) (x1 : Int) (Q : Int → gMN → gML → gME → Prop) : Prop :=
    wp_X7_in x1 0 (B_h.1 - 1) (fun (r8 : Int) => ((¬ r8 = 0 → wp_X7_barOfYears B_h P_h N_h L_h E_h D_h (fun (r17 : Int) (N_h_17 : gMN) (L_h_17 : gML) (E_h_17 : gME) => rI r17 ∧ ((0 ≤ r17 → wp_X7_heightOf B_h N_h_17 x1 (fun (r30 : Int) => Q r30 N_h_17 L_h_17 E_h_17)) ∧ (¬ (0 ≤ r17) → Q (-5) N_h_17 L_h_17 E_h_17)))) ∧ (¬ (¬ r8 = 0) → Q (-1) N_h L_h E_h)))

set_option maxHeartbeats 4000000 in
set_option maxRecDepth 20000 in
theorem c_X7_height {l : Launch} {D : va_G} {cI cJ cZ : ClassId} (qh : Nat → Nat) (B_h : gMB) (P_h : gMP) (N_h : gMN) (L_h : gML) (E_h : gME) (V_h : gMV) (G_h : gMG) (D_h : gMD) (O_h : gMO) (Z_h : gMZ) (R_h : gMR) (I_h : gMI) (x1 : Int) (Q : Int → gMN → gML → gME → Prop) (h : wp_X7_height B_h P_h N_h L_h E_h D_h x1 Q) : KM l D (kT cI cJ cZ) 0 0 yX7_height wsX7_height rm_X7_height [.ref (qh 0), .int (iI x1)] ((wdM cI cJ cZ qh B_h P_h N_h L_h E_h V_h G_h D_h O_h Z_h R_h I_h)) (rp_X7_height cI cJ cZ qh B_h P_h V_h G_h D_h O_h Z_h R_h I_h Q) := by
  refine KM_intro (lv := [(0, .ref (qh 0)), (1, .int (iI x1))]) false rfl (by decide) (Nat.le_of_ble_eq_true rfl) rfl (fun h => absurd h (by decide)) (fun v ws hq => by obtain ⟨r, N_h, L_h, E_h, rfl, rfl, _⟩ := hq; exact Or.inr (Or.inl ⟨rfl, _, rfl⟩)) (fun A K C => ?_)
  refine k_iload_n C dX7_height_0 1 rfl rfl 1 rfl ?_
  refine k_iconst C dX7_height_1 2 rfl ?_
  refine k_aload_n C dX7_height_2 0 rfl rfl 3 rfl ?_
  refine k_get C dX7_height_3 0 rfl (ci := 7) rfl hin_X7_height_7 0 (by decide) (List.mem_of_getElem? (i := 1) rfl) rfl 6 rfl ?_
  refine k_iconst C dX7_height_6 7 rfl ?_
  refine k_isub C dX7_height_7 8 rfl ?_
  have hM := c_X7_in (l := l) (D := D) (cI := cI) (cJ := cJ) (cZ := cZ) x1 0 (B_h.1 - 1) _ h
  refine k_callS C dX7_height_8 hM gX7_height_X7_in rfl sg_X7_in rfl (Nat.le_of_ble_eq_true rfl) ⟨⟨rfl, rfl⟩, by decide, by decide⟩ ⟨Nat.le_refl 0, Nat.le_refl 0⟩ [] [0, 1, 2, 3, 4, 5, 6, 7, 8, 9, 10, 11, 12, 13, 14, 15, 16] rfl rfl rfl rfl (by decide) 0 0 ⟨rfl, rfl⟩ 11 rfl (fun v w1 hq8 => ?_)
  obtain ⟨r8, rfl, rfl, hb8, h⟩ := hq8
  refine k_perm C [0, 1, 2, 3, 4, 5, 6, 7, 8, 9, 10, 11, 12, 13, 14, 15, 16] [.int (iI r8)] ((wdM cI cJ cZ qh B_h P_h N_h L_h E_h V_h G_h D_h O_h Z_h R_h I_h)) rfl rfl rfl ?_
  obtain ⟨ht, hf⟩ := h
  refine k_if_ne C dX7_height_11 (by rcases hb8 with rfl | rfl <;> decide) 16 14 (by decide) rfl (fun hc11 => ?_) (fun hc11 => ?_)
  · have h := ht hc11; clear ht hf
    refine k_aload_n C dX7_height_16 0 rfl rfl 17 rfl ?_
    have hM := c_X7_barOfYears (l := l) (D := D) (cI := cI) (cJ := cJ) (cZ := cZ) qh B_h P_h N_h L_h E_h V_h G_h D_h O_h Z_h R_h I_h _ h
    refine k_callV C dX7_height_17 hM gX7_height_X7_barOfYears rfl sg_X7_barOfYears 7 rfl rfl rfl (Nat.le_of_ble_eq_true rfl) ⟨⟨rfl, rfl⟩, by decide, by decide⟩ ⟨Nat.le_refl 0, Nat.le_refl 0⟩ [0, 1, 2, 3, 4, 5, 6, 7, 8, 9, 10, 11, 12, 13, 14, 15, 16] [] rfl rfl rfl rfl (by decide) 0 0 ⟨rfl, rfl⟩ 20 rfl (fun v w1 hq17 => ?_)
    obtain ⟨r17, N_h_17, L_h_17, E_h_17, rfl, rfl, h⟩ := hq17
    refine k_perm C [0, 1, 2, 3, 4, 5, 6, 7, 8, 9, 10, 11, 12, 13, 14, 15, 16] [.int (iI r17)] ((wdM cI cJ cZ qh B_h P_h N_h_17 L_h_17 E_h_17 V_h G_h D_h O_h Z_h R_h I_h)) rfl rfl rfl ?_
    obtain ⟨hr20a, h⟩ := h
    obtain ⟨ht, hf⟩ := h
    refine k_if_ge C dX7_height_20 hr20a 28 23 (by decide) rfl (fun hc20 => ?_) (fun hc20 => ?_)
    · have h := ht hc20; clear ht hf
      refine k_aload_n C dX7_height_28 0 rfl rfl 29 rfl ?_
      refine k_iload_n C dX7_height_29 1 rfl rfl 30 rfl ?_
      have hM := c_X7_heightOf (l := l) (D := D) (cI := cI) (cJ := cJ) (cZ := cZ) qh B_h P_h N_h_17 L_h_17 E_h_17 V_h G_h D_h O_h Z_h R_h I_h x1 _ h
      refine k_callV C dX7_height_30 hM gX7_height_X7_heightOf rfl sg_X7_heightOf 7 rfl rfl rfl (Nat.le_of_ble_eq_true rfl) ⟨⟨rfl, rfl⟩, by decide, by decide⟩ ⟨Nat.le_refl 0, Nat.le_refl 0⟩ [0, 1, 2, 3, 4, 5, 6, 7, 8, 9, 10, 11, 12, 13, 14, 15, 16] [] rfl rfl rfl rfl (by decide) 0 0 ⟨rfl, rfl⟩ 33 rfl (fun v w1 hq30 => ?_)
      obtain ⟨r30, rfl, rfl, h⟩ := hq30
      refine k_perm C [0, 1, 2, 3, 4, 5, 6, 7, 8, 9, 10, 11, 12, 13, 14, 15, 16] [.int (iI r30)] ((wdM cI cJ cZ qh B_h P_h N_h_17 L_h_17 E_h_17 V_h G_h D_h O_h Z_h R_h I_h)) rfl rfl rfl ?_
      exact k_iret C dX7_height_33 ⟨r30, N_h_17, L_h_17, E_h_17, rfl, rfl, h⟩
    · have h := hf hc20; clear ht hf
      refine k_bipush C dX7_height_23 (by decide) 25 rfl ?_
      refine k_goto C dX7_height_25 33 (by decide) ?_
      exact k_iret C dX7_height_33 ⟨(-5), N_h_17, L_h_17, E_h_17, rfl, rfl, h⟩
  · have h := hf hc11; clear ht hf
    refine k_iconst C dX7_height_14 15 rfl ?_
    exact k_iret C dX7_height_15 ⟨(-1), N_h, L_h, E_h, rfl, rfl, h⟩

/-! X7_part -/
abbrev rm_X7_part : Room := { frames := 0, cells := 0, slots := 0, locals := 0 }
theorem sg_X7_part : yX7_part.cls ≠ "java/lang/invoke/MethodHandle" ∧ yX7_part.cls ≠ "java/lang/invoke/VarHandle" ∧ (parseMethodDescriptor yX7_part.desc).map (fun d => d.parameters.length) = some 3 := by decide +kernel
def rp_X7_part (cI cJ cZ : ClassId) (Q : Int → Prop) : Option Value → va_W → Prop := fun v w1 => ∃ (r : Int), v = some (.long (lL r)) ∧ w1 = ([] : va_W) ∧ Q r
def wp_X7_part_6 (K_31 : Int → Int → Int → Int → Prop)  (Q : Int → Prop) : Nat → Int → Int → Int → Int → Int → Prop
  | 0, _, _, _, _, _ => False
  | n6 + 1, x0, x2, x4, x5, x7 =>
    rL x7 ∧ ((x7 = 0 → K_31 x0 x2 x4 x5) ∧ (¬ (x7 = 0) → ¬ x7 = 0 ∧ rL x5 ∧ wp_X7_part_6 K_31 Q n6 x0 x2 x4 x7 (x5.tmod x7)))
def wp_X7_part (x0 : Int) (x2 : Int) (x4 : Int) (Q : Int → Prop) : Prop :=
    ∃ m6, wp_X7_part_6 (fun (x0 : Int) (x2 : Int) (x4 : Int) (x5 : Int) => rI x4 ∧ ((¬ x4 = 0 → ¬ x5 = 0 ∧ rL x2 ∧ rL x5 ∧ Q (x2.tdiv x5)) ∧ (¬ (¬ x4 = 0) → ¬ x5 = 0 ∧ rL x0 ∧ rL x5 ∧ Q (x0.tdiv x5)))) Q m6 x0 x2 x4 x0 x2
set_option maxHeartbeats 4000000 in
set_option maxRecDepth 20000 in
theorem w_X7_part_6 {l : Launch} {D : va_G} {cI cJ cZ : ClassId} {A : Nat → Prop} {K : KT} {Q : Int → Prop} {K_31 : Int → Int → Int → Int → Prop} (C : KC cX7_part yX7_part.cls wsX7_part rm_X7_part 11 D (kT cI cJ cZ) A l false (rp_X7_part cI cJ cZ Q) 0 0 K) : ∀ (n : Nat) (x0 : Int) (x2 : Int) (x4 : Int) (x5 : Int) (x7 : Int), wp_X7_part_6 K_31 Q n x0 x2 x4 x5 x7 → (∀ (x0 : Int) (x2 : Int) (x4 : Int) (x5 : Int), K_31 x0 x2 x4 x5 → K 0 0 31 [(0, .long (lL x0)), (2, .long (lL x2)), (4, .int (iI x4)), (5, .long (lL x5))] [] (([] : va_W))) → K 0 0 6 [(0, .long (lL x0)), (2, .long (lL x2)), (4, .int (iI x4)), (5, .long (lL x5)), (7, .long (lL x7))] [] (([] : va_W)) := by
  intro n
  induction n with
  | zero => intro x0 x2 x4 x5 x7 h; exact h.elim
  | succ n ih =>
    intro x0 x2 x4 x5 x7 h hK_31
    refine k_lload C dX7_part_6 4 rfl 8 rfl ?_
    refine k_lconst (v := 0) C dX7_part_8 (by decide) 9 rfl ?_
    obtain ⟨hr9a, h⟩ := h
    obtain ⟨ht, hf⟩ := h
    refine k_lcmp_eq C dX7_part_9 dX7_part_10 ⟨hr9a, (by decide)⟩ 31 13 (by decide) rfl (fun hc9 => ?_) (fun hc9 => ?_)
    · have h := ht hc9; clear ht hf
      refine k_lv C [0, 1, 2, 3] [(0, .long (lL x0)), (2, .long (lL x2)), (4, .int (iI x4)), (5, .long (lL x5))] rfl ?_
      exact hK_31 x0 x2 x4 x5 h
    · have h := hf hc9; clear ht hf
      refine k_lload C dX7_part_13 3 rfl 15 rfl ?_
      refine k_lload C dX7_part_15 4 rfl 17 rfl ?_
      obtain ⟨hz17, h⟩ := h
      obtain ⟨hr17a, h⟩ := h
      refine k_lrem C dX7_part_17 ⟨hr17a, hr9a, hz17⟩ 18 rfl ?_
      refine k_lstore C dX7_part_18 (by decide) [(9, .long (lL (x5.tmod x7))), (0, .long (lL x0)), (2, .long (lL x2)), (4, .int (iI x4)), (5, .long (lL x5)), (7, .long (lL x7))] rfl 20 rfl ?_
      refine k_lload C dX7_part_20 5 rfl 22 rfl ?_
      refine k_lstore C dX7_part_22 (by decide) [(5, .long (lL x7)), (9, .long (lL (x5.tmod x7))), (0, .long (lL x0)), (2, .long (lL x2)), (4, .int (iI x4)), (7, .long (lL x7))] rfl 24 rfl ?_
      refine k_lload C dX7_part_24 1 rfl 26 rfl ?_
      refine k_lstore C dX7_part_26 (by decide) [(7, .long (lL (x5.tmod x7))), (5, .long (lL x7)), (9, .long (lL (x5.tmod x7))), (0, .long (lL x0)), (2, .long (lL x2)), (4, .int (iI x4))] rfl 28 rfl ?_
      refine k_goto C dX7_part_28 6 (by decide) ?_
      refine k_lv C [3, 4, 5, 1, 0] [(0, .long (lL x0)), (2, .long (lL x2)), (4, .int (iI x4)), (5, .long (lL x7)), (7, .long (lL (x5.tmod x7)))] rfl ?_
      exact ih x0 x2 x4 x7 (x5.tmod x7) h hK_31
set_option maxHeartbeats 4000000 in
set_option maxRecDepth 20000 in
theorem c_X7_part {l : Launch} {D : va_G} {cI cJ cZ : ClassId} (x0 : Int) (x2 : Int) (x4 : Int) (Q : Int → Prop) (h : wp_X7_part x0 x2 x4 Q) : KM l D (kT cI cJ cZ) 0 0 yX7_part wsX7_part rm_X7_part [.long (lL x0), .long (lL x2), .int (iI x4)] (([] : va_W)) (rp_X7_part cI cJ cZ Q) := by
  refine KM_intro (lv := [(0, .long (lL x0)), (2, .long (lL x2)), (4, .int (iI x4))]) false rfl (by decide) (Nat.le_of_ble_eq_true rfl) rfl (fun h => absurd h (by decide)) (fun v ws hq => by obtain ⟨r, rfl, rfl, _⟩ := hq; exact Or.inr (Or.inr (Or.inr ⟨rfl, _, rfl⟩))) (fun A K C => ?_)
  refine k_lload_n C dX7_part_0 0 rfl rfl 1 rfl ?_
  refine k_lstore C dX7_part_1 (by decide) [(5, .long (lL x0)), (0, .long (lL x0)), (2, .long (lL x2)), (4, .int (iI x4))] rfl 3 rfl ?_
  refine k_lload_n C dX7_part_3 2 rfl rfl 4 rfl ?_
  refine k_lstore C dX7_part_4 (by decide) [(7, .long (lL x2)), (5, .long (lL x0)), (0, .long (lL x0)), (2, .long (lL x2)), (4, .int (iI x4))] rfl 6 rfl ?_
  refine k_lv C [2, 3, 4, 1, 0] [(0, .long (lL x0)), (2, .long (lL x2)), (4, .int (iI x4)), (5, .long (lL x0)), (7, .long (lL x2))] rfl ?_
  obtain ⟨m6, h⟩ := h
  refine w_X7_part_6 C m6 x0 x2 x4 x0 x2 h (fun x0 x2 x4 x5 h => ?_)
  · refine k_iload C dX7_part_31 2 rfl 33 rfl ?_
    obtain ⟨hr33a, h⟩ := h
    obtain ⟨ht, hf⟩ := h
    refine k_if_ne C dX7_part_33 hr33a 43 36 (by decide) rfl (fun hc33 => ?_) (fun hc33 => ?_)
    · have h := ht hc33; clear ht hf
      refine k_lload_n C dX7_part_43 1 rfl rfl 44 rfl ?_
      refine k_lload C dX7_part_44 3 rfl 46 rfl ?_
      obtain ⟨hz46, h⟩ := h
      obtain ⟨hr46a, hr46b, h⟩ := h
      refine k_ldiv C dX7_part_46 ⟨hr46a, hr46b, hz46⟩ 47 rfl ?_
      exact k_lret C dX7_part_47 ⟨x2.tdiv x5, rfl, rfl, h⟩
    · have h := hf hc33; clear ht hf
      refine k_lload_n C dX7_part_36 0 rfl rfl 37 rfl ?_
      refine k_lload C dX7_part_37 3 rfl 39 rfl ?_
      obtain ⟨hz39, h⟩ := h
      obtain ⟨hr39a, hr39b, h⟩ := h
      refine k_ldiv C dX7_part_39 ⟨hr39a, hr39b, hz39⟩ 40 rfl ?_
      refine k_goto C dX7_part_40 47 (by decide) ?_
      exact k_lret C dX7_part_47 ⟨x0.tdiv x5, rfl, rfl, h⟩

/-! X7_load -/
abbrev rm_X7_load : Room := { frames := 5, cells := 0, slots := 0, locals := 116 }
theorem sg_X7_load : yX7_load.cls ≠ "java/lang/invoke/MethodHandle" ∧ yX7_load.cls ≠ "java/lang/invoke/VarHandle" ∧ (parseMethodDescriptor yX7_load.desc).map (fun d => d.parameters.length) = some 2 := by decide +kernel
theorem hin_X7_load_7 : ∀ w ∈ wsX70, w ∈ wsX7_load := fun _ h => List.mem_cons_of_mem _ (List.mem_append_right _ h)
def rp_X7_load (cI cJ cZ : ClassId) (qh : Nat → Nat) (B_h : gMB) (P_h : gMP) (E_h : gME) (V_h : gMV) (G_h : gMG) (D_h : gMD) (O_h : gMO) (Z_h : gMZ) (R_h : gMR) (I_h : gMI) (Q : Int → gMN → gML → Prop) : Option Value → va_W → Prop := fun v w1 => ∃ (r : Int) (N_h : gMN) (L_h : gML), v = some (.long (lL r)) ∧ w1 = (wdM cI cJ cZ qh B_h P_h N_h L_h E_h V_h G_h D_h O_h Z_h R_h I_h) ∧ Q r N_h L_h
def wp_X7_load (B_h : gMB) (P_h : gMP) (N_h : gMN) (L_h : gML) (x1 : Int) (x2 : Int) (Q : Int → gMN → gML → Prop) : Prop :=
    wp_X7_in x1 0 9 (fun (r4 : Int) => ((¬ r4 = 0 → wp_X7_in x2 0 1 (fun (r17 : Int) => ((¬ r17 = 0 → (0 ≤ x1 ∧ x1 < 10) ∧ rI (P_h.1 x1) ∧ ((0 ≤ (P_h.1 x1) → wp_X7_asNow P_h N_h (fun (N_h_41 : gMN) => wp_X7_layLoads B_h N_h_41 L_h (fun (L_h_45 : gML) => wp_X7_part (L_h_45 x1) 60466176 x2 (fun (r58 : Int) => Q r58 N_h_41 L_h_45)))) ∧ (¬ (0 ≤ (P_h.1 x1)) → Q (-1000000000000000003) N_h L_h))) ∧ (¬ (¬ r17 = 0) → Q (-1000000000000000002) N_h L_h)))) ∧ (¬ (¬ r4 = 0) → Q (-1000000000000000001) N_h L_h)))

set_option maxHeartbeats 4000000 in
set_option maxRecDepth 20000 in
theorem c_X7_load {l : Launch} {D : va_G} {cI cJ cZ : ClassId} (qh : Nat → Nat) (B_h : gMB) (P_h : gMP) (N_h : gMN) (L_h : gML) (E_h : gME) (V_h : gMV) (G_h : gMG) (D_h : gMD) (O_h : gMO) (Z_h : gMZ) (R_h : gMR) (I_h : gMI) (x1 : Int) (x2 : Int) (Q : Int → gMN → gML → Prop) (h : wp_X7_load B_h P_h N_h L_h x1 x2 Q) : KM l D (kT cI cJ cZ) 0 0 yX7_load wsX7_load rm_X7_load [.ref (qh 0), .int (iI x1), .int (iI x2)] ((wdM cI cJ cZ qh B_h P_h N_h L_h E_h V_h G_h D_h O_h Z_h R_h I_h)) (rp_X7_load cI cJ cZ qh B_h P_h E_h V_h G_h D_h O_h Z_h R_h I_h Q) := by
  refine KM_intro (lv := [(0, .ref (qh 0)), (1, .int (iI x1)), (2, .int (iI x2))]) false rfl (by decide) (Nat.le_of_ble_eq_true rfl) rfl (fun h => absurd h (by decide)) (fun v ws hq => by obtain ⟨r, N_h, L_h, rfl, rfl, _⟩ := hq; exact Or.inr (Or.inr (Or.inr ⟨rfl, _, rfl⟩))) (fun A K C => ?_)
  refine k_iload_n C dX7_load_0 1 rfl rfl 1 rfl ?_
  refine k_iconst C dX7_load_1 2 rfl ?_
  refine k_bipush C dX7_load_2 (by decide) 4 rfl ?_
  have hM := c_X7_in (l := l) (D := D) (cI := cI) (cJ := cJ) (cZ := cZ) x1 0 9 _ h
  refine k_callS C dX7_load_4 hM gX7_load_X7_in rfl sg_X7_in rfl (Nat.le_of_ble_eq_true rfl) ⟨⟨rfl, rfl⟩, by decide, by decide⟩ ⟨Nat.le_refl 0, Nat.le_refl 0⟩ [] [0, 1, 2, 3, 4, 5, 6, 7, 8, 9, 10, 11, 12, 13, 14, 15, 16] rfl rfl rfl rfl (by decide) 0 0 ⟨rfl, rfl⟩ 7 rfl (fun v w1 hq4 => ?_)
  obtain ⟨r4, rfl, rfl, hb4, h⟩ := hq4
  refine k_perm C [0, 1, 2, 3, 4, 5, 6, 7, 8, 9, 10, 11, 12, 13, 14, 15, 16] [.int (iI r4)] ((wdM cI cJ cZ qh B_h P_h N_h L_h E_h V_h G_h D_h O_h Z_h R_h I_h)) rfl rfl rfl ?_
  obtain ⟨ht, hf⟩ := h
  refine k_if_ne C dX7_load_7 (by rcases hb4 with rfl | rfl <;> decide) 14 10 (by decide) rfl (fun hc7 => ?_) (fun hc7 => ?_)
  · have h := ht hc7; clear ht hf
    refine k_iload_n C dX7_load_14 2 rfl rfl 15 rfl ?_
    refine k_iconst C dX7_load_15 16 rfl ?_
    refine k_iconst C dX7_load_16 17 rfl ?_
    have hM := c_X7_in (l := l) (D := D) (cI := cI) (cJ := cJ) (cZ := cZ) x2 0 1 _ h
    refine k_callS C dX7_load_17 hM gX7_load_X7_in rfl sg_X7_in rfl (Nat.le_of_ble_eq_true rfl) ⟨⟨rfl, rfl⟩, by decide, by decide⟩ ⟨Nat.le_refl 0, Nat.le_refl 0⟩ [] [0, 1, 2, 3, 4, 5, 6, 7, 8, 9, 10, 11, 12, 13, 14, 15, 16] rfl rfl rfl rfl (by decide) 0 0 ⟨rfl, rfl⟩ 20 rfl (fun v w1 hq17 => ?_)
    obtain ⟨r17, rfl, rfl, hb17, h⟩ := hq17
    refine k_perm C [0, 1, 2, 3, 4, 5, 6, 7, 8, 9, 10, 11, 12, 13, 14, 15, 16] [.int (iI r17)] ((wdM cI cJ cZ qh B_h P_h N_h L_h E_h V_h G_h D_h O_h Z_h R_h I_h)) rfl rfl rfl ?_
    obtain ⟨ht, hf⟩ := h
    refine k_if_ne C dX7_load_20 (by rcases hb17 with rfl | rfl <;> decide) 27 23 (by decide) rfl (fun hc20 => ?_) (fun hc20 => ?_)
    · have h := ht hc20; clear ht hf
      refine k_aload_n C dX7_load_27 0 rfl rfl 28 rfl ?_
      refine k_get C dX7_load_28 0 rfl (ci := 7) rfl hin_X7_load_7 5 (by decide) (List.mem_of_getElem? (i := 3) rfl) rfl 31 rfl ?_
      refine k_iload_n C dX7_load_31 1 rfl rfl 32 rfl ?_
      obtain ⟨hi32, h⟩ := h
      refine k_iaload C dX7_load_32 4 0 rfl rfl (by decide) hi32 33 rfl ?_
      obtain ⟨hr33a, h⟩ := h
      obtain ⟨ht, hf⟩ := h
      refine k_if_ge C dX7_load_33 hr33a 40 36 (by decide) rfl (fun hc33 => ?_) (fun hc33 => ?_)
      · have h := ht hc33; clear ht hf
        refine k_aload_n C dX7_load_40 0 rfl rfl 41 rfl ?_
        have hM := c_X7_asNow (l := l) (D := D) (cI := cI) (cJ := cJ) (cZ := cZ) qh B_h P_h N_h L_h E_h V_h G_h D_h O_h Z_h R_h I_h _ h
        refine k_callV C dX7_load_41 hM gX7_load_X7_asNow rfl sg_X7_asNow 7 rfl rfl rfl (Nat.le_of_ble_eq_true rfl) ⟨⟨rfl, rfl⟩, by decide, by decide⟩ ⟨Nat.le_refl 0, Nat.le_refl 0⟩ [0, 1, 2, 3, 4, 5, 6, 7, 8, 9, 10, 11, 12, 13, 14, 15, 16] [] rfl rfl rfl rfl (by decide) 0 0 ⟨rfl, rfl⟩ 44 rfl (fun v w1 hq41 => ?_)
        obtain ⟨N_h_41, rfl, rfl, h⟩ := hq41
        refine k_perm C [0, 1, 2, 3, 4, 5, 6, 7, 8, 9, 10, 11, 12, 13, 14, 15, 16] [] ((wdM cI cJ cZ qh B_h P_h N_h_41 L_h E_h V_h G_h D_h O_h Z_h R_h I_h)) rfl rfl rfl ?_
        refine k_aload_n C dX7_load_44 0 rfl rfl 45 rfl ?_
        have hM := c_X7_layLoads (l := l) (D := D) (cI := cI) (cJ := cJ) (cZ := cZ) qh B_h P_h N_h_41 L_h E_h V_h G_h D_h O_h Z_h R_h I_h _ h
        refine k_callV C dX7_load_45 hM gX7_load_X7_layLoads rfl sg_X7_layLoads 7 rfl rfl rfl (Nat.le_of_ble_eq_true rfl) ⟨⟨rfl, rfl⟩, by decide, by decide⟩ ⟨Nat.le_refl 0, Nat.le_refl 0⟩ [0, 1, 2, 3, 4, 5, 6, 7, 8, 9, 10, 11, 12, 13, 14, 15, 16] [] rfl rfl rfl rfl (by decide) 0 0 ⟨rfl, rfl⟩ 48 rfl (fun v w1 hq45 => ?_)
        obtain ⟨L_h_45, rfl, rfl, h⟩ := hq45
        refine k_perm C [0, 1, 2, 3, 4, 5, 6, 7, 8, 9, 10, 11, 12, 13, 14, 15, 16] [] ((wdM cI cJ cZ qh B_h P_h N_h_41 L_h_45 E_h V_h G_h D_h O_h Z_h R_h I_h)) rfl rfl rfl ?_
        refine k_aload_n C dX7_load_48 0 rfl rfl 49 rfl ?_
        refine k_get C dX7_load_49 0 rfl (ci := 7) rfl hin_X7_load_7 13 (by decide) (List.mem_of_getElem? (i := 5) rfl) rfl 52 rfl ?_
        refine k_iload_n C dX7_load_52 1 rfl rfl 53 rfl ?_
        refine k_laload C dX7_load_53 10 1 rfl rfl (by decide) hi32 54 rfl ?_
        refine k_ldc2 (v := 60466176) C dX7_load_54 (List.mem_of_getElem? (i := 6) rfl) (by decide) 57 rfl ?_
        refine k_iload_n C dX7_load_57 2 rfl rfl 58 rfl ?_
        have hM := c_X7_part (l := l) (D := D) (cI := cI) (cJ := cJ) (cZ := cZ) (L_h_45 x1) 60466176 x2 _ h
        refine k_callS C dX7_load_58 hM gX7_load_X7_part rfl sg_X7_part rfl (Nat.le_of_ble_eq_true rfl) ⟨⟨rfl, rfl⟩, by decide, by decide⟩ ⟨Nat.le_refl 0, Nat.le_refl 0⟩ [] [0, 1, 2, 3, 4, 5, 6, 7, 8, 9, 10, 11, 12, 13, 14, 15, 16] rfl rfl rfl rfl (by decide) 0 0 ⟨rfl, rfl⟩ 61 rfl (fun v w1 hq58 => ?_)
        obtain ⟨r58, rfl, rfl, h⟩ := hq58
        refine k_perm C [0, 1, 2, 3, 4, 5, 6, 7, 8, 9, 10, 11, 12, 13, 14, 15, 16] [.long (lL r58)] ((wdM cI cJ cZ qh B_h P_h N_h_41 L_h_45 E_h V_h G_h D_h O_h Z_h R_h I_h)) rfl rfl rfl ?_
        exact k_lret C dX7_load_61 ⟨r58, N_h_41, L_h_45, rfl, rfl, h⟩
      · have h := hf hc33; clear ht hf
        refine k_ldc2 (v := (-1000000000000000003)) C dX7_load_36 (List.mem_of_getElem? (i := 4) rfl) (by decide) 39 rfl ?_
        exact k_lret C dX7_load_39 ⟨(-1000000000000000003), N_h, L_h, rfl, rfl, h⟩
    · have h := hf hc20; clear ht hf
      refine k_ldc2 (v := (-1000000000000000002)) C dX7_load_23 (List.mem_of_getElem? (i := 2) rfl) (by decide) 26 rfl ?_
      exact k_lret C dX7_load_26 ⟨(-1000000000000000002), N_h, L_h, rfl, rfl, h⟩
  · have h := hf hc7; clear ht hf
    refine k_ldc2 (v := (-1000000000000000001)) C dX7_load_10 (List.mem_of_getElem? (i := 1) rfl) (by decide) 13 rfl ?_
    exact k_lret C dX7_load_13 ⟨(-1000000000000000001), N_h, L_h, rfl, rfl, h⟩

/-! X7_layStrain -/
abbrev rm_X7_layStrain : Room := { frames := 5, cells := 0, slots := 0, locals := 116 }
theorem sg_X7_layStrain : yX7_layStrain.cls ≠ "java/lang/invoke/MethodHandle" ∧ yX7_layStrain.cls ≠ "java/lang/invoke/VarHandle" ∧ (parseMethodDescriptor yX7_layStrain.desc).map (fun d => d.parameters.length) = some 0 := by decide +kernel
theorem hin_X7_layStrain_7 : ∀ w ∈ wsX70, w ∈ wsX7_layStrain := fun _ h => List.mem_cons_of_mem _ (List.mem_append_right _ h)
def rp_X7_layStrain (cI cJ cZ : ClassId) (qh : Nat → Nat) (B_h : gMB) (P_h : gMP) (N_h : gMN) (E_h : gME) (G_h : gMG) (D_h : gMD) (O_h : gMO) (Z_h : gMZ) (R_h : gMR) (I_h : gMI) (Q : gML → gMV → Prop) : Option Value → va_W → Prop := fun v w1 => ∃ (L_h : gML) (V_h : gMV), v = none ∧ w1 = (wdM cI cJ cZ qh B_h P_h N_h L_h E_h V_h G_h D_h O_h Z_h R_h I_h) ∧ Q L_h V_h
def wp_X7_layStrain_16 (B_h : gMB) (N_h : gMN) (K_93 : gML → gMV → Prop)  (Q : gML → gMV → Prop) : Nat → Int → gML → gMV → Prop
  | 0, _, _, _ => False
  | n16 + 1, x1, L_h, V_h =>
    rI x1 ∧ ((10 ≤ x1 → K_93 L_h V_h) ∧ (¬ (10 ≤ x1) → wp_X7_isIn N_h x1 (fun (r24 : Int) => ((r24 = 0 → wp_X7_layStrain_16 B_h N_h K_93 Q n16 (x1 + 1) L_h V_h) ∧ (¬ (r24 = 0) → (0 ≤ x1 ∧ x1 < 10) ∧ rI (B_h.2.2.2.2 x1) ∧ (((B_h.2.2.2.2 x1) ≤ 0 → wp_X7_layStrain_16 B_h N_h K_93 Q n16 (x1 + 1) L_h V_h) ∧ (¬ ((B_h.2.2.2.2 x1) ≤ 0) → rL ((L_h x1) * V_h.2) ∧ rL (V_h.1 * (B_h.2.2.2.2 x1)) ∧ ((((L_h x1) * V_h.2) ≤ (V_h.1 * (B_h.2.2.2.2 x1)) → wp_X7_layStrain_16 B_h N_h K_93 Q n16 (x1 + 1) L_h V_h) ∧ (¬ (((L_h x1) * V_h.2) ≤ (V_h.1 * (B_h.2.2.2.2 x1))) → wp_X7_layStrain_16 B_h N_h K_93 Q n16 (x1 + 1) L_h (L_h x1, B_h.2.2.2.2 x1))))))))))
def wp_X7_layStrain (B_h : gMB) (N_h : gMN) (L_h : gML) (V_h : gMV) (Q : gML → gMV → Prop) : Prop :=
    wp_X7_layLoads B_h N_h L_h (fun (L_h_1 : gML) => ∃ m16, wp_X7_layStrain_16 B_h N_h (fun (L_h : gML) (V_h : gMV) => Q L_h V_h) Q m16 0 L_h_1 (0, 1))
set_option maxHeartbeats 4000000 in
set_option maxRecDepth 20000 in
theorem w_X7_layStrain_16 {l : Launch} {D : va_G} {cI cJ cZ : ClassId} {A : Nat → Prop} {K : KT} {qh : Nat → Nat} {B_h : gMB} {P_h : gMP} {N_h : gMN} {E_h : gME} {G_h : gMG} {D_h : gMD} {O_h : gMO} {Z_h : gMZ} {R_h : gMR} {I_h : gMI} {Q : gML → gMV → Prop} {K_93 : gML → gMV → Prop} (C : KC cX7_layStrain yX7_layStrain.cls wsX7_layStrain rm_X7_layStrain 2 D (kT cI cJ cZ) A l false (rp_X7_layStrain cI cJ cZ qh B_h P_h N_h E_h G_h D_h O_h Z_h R_h I_h Q) 0 0 K) : ∀ (n : Nat) (x1 : Int) (L_h : gML) (V_h : gMV), wp_X7_layStrain_16 B_h N_h K_93 Q n x1 L_h V_h → (∀ (L_h : gML) (V_h : gMV), K_93 L_h V_h → K 0 0 93 [] [] ((wdM cI cJ cZ qh B_h P_h N_h L_h E_h V_h G_h D_h O_h Z_h R_h I_h))) → K 0 0 16 [(0, .ref (qh 0)), (1, .int (iI x1))] [] ((wdM cI cJ cZ qh B_h P_h N_h L_h E_h V_h G_h D_h O_h Z_h R_h I_h)) := by
  intro n
  induction n with
  | zero => intro x1 L_h V_h h; exact h.elim
  | succ n ih =>
    intro x1 L_h V_h h hK_93
    refine k_iload_n C dX7_layStrain_16 1 rfl rfl 17 rfl ?_
    refine k_bipush C dX7_layStrain_17 (by decide) 19 rfl ?_
    obtain ⟨hr19a, h⟩ := h
    obtain ⟨ht, hf⟩ := h
    refine k_icmp_ge C dX7_layStrain_19 ⟨hr19a, (by decide)⟩ 93 22 (by decide) rfl (fun hc19 => ?_) (fun hc19 => ?_)
    · have h := ht hc19; clear ht hf
      refine k_lv C [] [] rfl ?_
      exact hK_93 L_h V_h h
    · have h := hf hc19; clear ht hf
      refine k_aload_n C dX7_layStrain_22 0 rfl rfl 23 rfl ?_
      refine k_iload_n C dX7_layStrain_23 1 rfl rfl 24 rfl ?_
      have hM := c_X7_isIn (l := l) (D := D) (cI := cI) (cJ := cJ) (cZ := cZ) qh B_h P_h N_h L_h E_h V_h G_h D_h O_h Z_h R_h I_h x1 _ h
      refine k_callV C dX7_layStrain_24 hM gX7_layStrain_X7_isIn rfl sg_X7_isIn 7 rfl rfl rfl (Nat.le_of_ble_eq_true rfl) ⟨⟨rfl, rfl⟩, by decide, by decide⟩ ⟨Nat.le_refl 0, Nat.le_refl 0⟩ [0, 1, 2, 3, 4, 5, 6, 7, 8, 9, 10, 11, 12, 13, 14, 15, 16] [] rfl rfl rfl rfl (by decide) 0 0 ⟨rfl, rfl⟩ 27 rfl (fun v w1 hq24 => ?_)
      obtain ⟨r24, rfl, rfl, hb24, h⟩ := hq24
      refine k_perm C [0, 1, 2, 3, 4, 5, 6, 7, 8, 9, 10, 11, 12, 13, 14, 15, 16] [.int (iI r24)] ((wdM cI cJ cZ qh B_h P_h N_h L_h E_h V_h G_h D_h O_h Z_h R_h I_h)) rfl rfl rfl ?_
      obtain ⟨ht, hf⟩ := h
      refine k_if_eq C dX7_layStrain_27 (by rcases hb24 with rfl | rfl <;> decide) 87 30 (by decide) rfl (fun hc27 => ?_) (fun hc27 => ?_)
      · have h := ht hc27; clear ht hf
        refine k_iinc (j := 1) C dX7_layStrain_87 rfl (by decide) [(1, .int (iI (x1 + 1))), (0, .ref (qh 0))] rfl 90 rfl ?_
        refine k_goto C dX7_layStrain_90 16 (by decide) ?_
        refine k_lv C [1, 0] [(0, .ref (qh 0)), (1, .int (iI (x1 + 1)))] rfl ?_
        exact ih (x1 + 1) L_h V_h h hK_93
      · have h := hf hc27; clear ht hf
        refine k_aload_n C dX7_layStrain_30 0 rfl rfl 31 rfl ?_
        refine k_get C dX7_layStrain_31 0 rfl (ci := 7) rfl hin_X7_layStrain_7 4 (by decide) (List.mem_of_getElem? (i := 3) rfl) rfl 34 rfl ?_
        refine k_iload_n C dX7_layStrain_34 1 rfl rfl 35 rfl ?_
        obtain ⟨hi35, h⟩ := h
        refine k_iaload C dX7_layStrain_35 3 0 rfl rfl (by decide) hi35 36 rfl ?_
        obtain ⟨hr36a, h⟩ := h
        obtain ⟨ht, hf⟩ := h
        refine k_if_le C dX7_layStrain_36 hr36a 87 39 (by decide) rfl (fun hc36 => ?_) (fun hc36 => ?_)
        · have h := ht hc36; clear ht hf
          refine k_iinc (j := 1) C dX7_layStrain_87 rfl (by decide) [(1, .int (iI (x1 + 1))), (0, .ref (qh 0))] rfl 90 rfl ?_
          refine k_goto C dX7_layStrain_90 16 (by decide) ?_
          refine k_lv C [1, 0] [(0, .ref (qh 0)), (1, .int (iI (x1 + 1)))] rfl ?_
          exact ih (x1 + 1) L_h V_h h hK_93
        · have h := hf hc36; clear ht hf
          refine k_aload_n C dX7_layStrain_39 0 rfl rfl 40 rfl ?_
          refine k_get C dX7_layStrain_40 0 rfl (ci := 7) rfl hin_X7_layStrain_7 13 (by decide) (List.mem_of_getElem? (i := 4) rfl) rfl 43 rfl ?_
          refine k_iload_n C dX7_layStrain_43 1 rfl rfl 44 rfl ?_
          refine k_laload C dX7_layStrain_44 10 1 rfl rfl (by decide) hi35 45 rfl ?_
          refine k_aload_n C dX7_layStrain_45 0 rfl rfl 46 rfl ?_
          refine k_get C dX7_layStrain_46 0 rfl (ci := 7) rfl hin_X7_layStrain_7 16 (by decide) (List.mem_of_getElem? (i := 2) rfl) rfl 49 rfl ?_
          refine k_lmul C dX7_layStrain_49 50 rfl ?_
          refine k_aload_n C dX7_layStrain_50 0 rfl rfl 51 rfl ?_
          refine k_get C dX7_layStrain_51 0 rfl (ci := 7) rfl hin_X7_layStrain_7 15 (by decide) (List.mem_of_getElem? (i := 1) rfl) rfl 54 rfl ?_
          refine k_aload_n C dX7_layStrain_54 0 rfl rfl 55 rfl ?_
          refine k_get C dX7_layStrain_55 0 rfl (ci := 7) rfl hin_X7_layStrain_7 4 (by decide) (List.mem_of_getElem? (i := 3) rfl) rfl 58 rfl ?_
          refine k_iload_n C dX7_layStrain_58 1 rfl rfl 59 rfl ?_
          refine k_iaload C dX7_layStrain_59 3 0 rfl rfl (by decide) hi35 60 rfl ?_
          refine k_i2l C dX7_layStrain_60 hr36a 61 rfl ?_
          refine k_lmul C dX7_layStrain_61 62 rfl ?_
          obtain ⟨hr62a, hr62b, h⟩ := h
          obtain ⟨ht, hf⟩ := h
          refine k_lcmp_le C dX7_layStrain_62 dX7_layStrain_63 ⟨hr62a, hr62b⟩ 87 66 (by decide) rfl (fun hc62 => ?_) (fun hc62 => ?_)
          · have h := ht hc62; clear ht hf
            refine k_iinc (j := 1) C dX7_layStrain_87 rfl (by decide) [(1, .int (iI (x1 + 1))), (0, .ref (qh 0))] rfl 90 rfl ?_
            refine k_goto C dX7_layStrain_90 16 (by decide) ?_
            refine k_lv C [1, 0] [(0, .ref (qh 0)), (1, .int (iI (x1 + 1)))] rfl ?_
            exact ih (x1 + 1) L_h V_h h hK_93
          · have h := hf hc62; clear ht hf
            refine k_aload_n C dX7_layStrain_66 0 rfl rfl 67 rfl ?_
            refine k_aload_n C dX7_layStrain_67 0 rfl rfl 68 rfl ?_
            refine k_get C dX7_layStrain_68 0 rfl (ci := 7) rfl hin_X7_layStrain_7 13 (by decide) (List.mem_of_getElem? (i := 4) rfl) rfl 71 rfl ?_
            refine k_iload_n C dX7_layStrain_71 1 rfl rfl 72 rfl ?_
            refine k_laload C dX7_layStrain_72 10 1 rfl rfl (by decide) hi35 73 rfl ?_
            refine k_put C dX7_layStrain_73 0 rfl (ci := 7) rfl hin_X7_layStrain_7 tyX7_ok nmX7 15 (by decide) (List.mem_of_getElem? (i := 1) rfl) rfl rfl rfl (Nat.le_of_ble_eq_true rfl) ((wdM cI cJ cZ qh B_h P_h N_h L_h E_h (L_h x1, V_h.2) G_h D_h O_h Z_h R_h I_h)) rfl 76 rfl ?_
            refine k_aload_n C dX7_layStrain_76 0 rfl rfl 77 rfl ?_
            refine k_aload_n C dX7_layStrain_77 0 rfl rfl 78 rfl ?_
            refine k_get C dX7_layStrain_78 0 rfl (ci := 7) rfl hin_X7_layStrain_7 4 (by decide) (List.mem_of_getElem? (i := 3) rfl) rfl 81 rfl ?_
            refine k_iload_n C dX7_layStrain_81 1 rfl rfl 82 rfl ?_
            refine k_iaload C dX7_layStrain_82 3 0 rfl rfl (by decide) hi35 83 rfl ?_
            refine k_i2l C dX7_layStrain_83 hr36a 84 rfl ?_
            refine k_put C dX7_layStrain_84 0 rfl (ci := 7) rfl hin_X7_layStrain_7 tyX7_ok nmX7 16 (by decide) (List.mem_of_getElem? (i := 2) rfl) rfl rfl rfl (Nat.le_of_ble_eq_true rfl) ((wdM cI cJ cZ qh B_h P_h N_h L_h E_h (L_h x1, B_h.2.2.2.2 x1) G_h D_h O_h Z_h R_h I_h)) rfl 87 rfl ?_
            refine k_iinc (j := 1) C dX7_layStrain_87 rfl (by decide) [(1, .int (iI (x1 + 1))), (0, .ref (qh 0))] rfl 90 rfl ?_
            refine k_goto C dX7_layStrain_90 16 (by decide) ?_
            refine k_lv C [1, 0] [(0, .ref (qh 0)), (1, .int (iI (x1 + 1)))] rfl ?_
            exact ih (x1 + 1) L_h (L_h x1, B_h.2.2.2.2 x1) h hK_93
set_option maxHeartbeats 4000000 in
set_option maxRecDepth 20000 in
theorem c_X7_layStrain {l : Launch} {D : va_G} {cI cJ cZ : ClassId} (qh : Nat → Nat) (B_h : gMB) (P_h : gMP) (N_h : gMN) (L_h : gML) (E_h : gME) (V_h : gMV) (G_h : gMG) (D_h : gMD) (O_h : gMO) (Z_h : gMZ) (R_h : gMR) (I_h : gMI) (Q : gML → gMV → Prop) (h : wp_X7_layStrain B_h N_h L_h V_h Q) : KM l D (kT cI cJ cZ) 0 0 yX7_layStrain wsX7_layStrain rm_X7_layStrain [.ref (qh 0)] ((wdM cI cJ cZ qh B_h P_h N_h L_h E_h V_h G_h D_h O_h Z_h R_h I_h)) (rp_X7_layStrain cI cJ cZ qh B_h P_h N_h E_h G_h D_h O_h Z_h R_h I_h Q) := by
  refine KM_intro (lv := [(0, .ref (qh 0))]) false rfl (by decide) (Nat.le_of_ble_eq_true rfl) rfl (fun h => absurd h (by decide)) (fun v ws hq => by obtain ⟨L_h, V_h, rfl, rfl, _⟩ := hq; exact Or.inl ⟨rfl, rfl⟩) (fun A K C => ?_)
  refine k_aload_n C dX7_layStrain_0 0 rfl rfl 1 rfl ?_
  have hM := c_X7_layLoads (l := l) (D := D) (cI := cI) (cJ := cJ) (cZ := cZ) qh B_h P_h N_h L_h E_h V_h G_h D_h O_h Z_h R_h I_h _ h
  refine k_callV C dX7_layStrain_1 hM gX7_layStrain_X7_layLoads rfl sg_X7_layLoads 7 rfl rfl rfl (Nat.le_of_ble_eq_true rfl) ⟨⟨rfl, rfl⟩, by decide, by decide⟩ ⟨Nat.le_refl 0, Nat.le_refl 0⟩ [0, 1, 2, 3, 4, 5, 6, 7, 8, 9, 10, 11, 12, 13, 14, 15, 16] [] rfl rfl rfl rfl (by decide) 0 0 ⟨rfl, rfl⟩ 4 rfl (fun v w1 hq1 => ?_)
  obtain ⟨L_h_1, rfl, rfl, h⟩ := hq1
  refine k_perm C [0, 1, 2, 3, 4, 5, 6, 7, 8, 9, 10, 11, 12, 13, 14, 15, 16] [] ((wdM cI cJ cZ qh B_h P_h N_h L_h_1 E_h V_h G_h D_h O_h Z_h R_h I_h)) rfl rfl rfl ?_
  refine k_aload_n C dX7_layStrain_4 0 rfl rfl 5 rfl ?_
  refine k_lconst (v := 0) C dX7_layStrain_5 (by decide) 6 rfl ?_
  refine k_put C dX7_layStrain_6 0 rfl (ci := 7) rfl hin_X7_layStrain_7 tyX7_ok nmX7 15 (by decide) (List.mem_of_getElem? (i := 1) rfl) rfl rfl rfl (Nat.le_of_ble_eq_true rfl) ((wdM cI cJ cZ qh B_h P_h N_h L_h_1 E_h (0, V_h.2) G_h D_h O_h Z_h R_h I_h)) rfl 9 rfl ?_
  refine k_aload_n C dX7_layStrain_9 0 rfl rfl 10 rfl ?_
  refine k_lconst (v := 1) C dX7_layStrain_10 (by decide) 11 rfl ?_
  refine k_put C dX7_layStrain_11 0 rfl (ci := 7) rfl hin_X7_layStrain_7 tyX7_ok nmX7 16 (by decide) (List.mem_of_getElem? (i := 2) rfl) rfl rfl rfl (Nat.le_of_ble_eq_true rfl) ((wdM cI cJ cZ qh B_h P_h N_h L_h_1 E_h (0, 1) G_h D_h O_h Z_h R_h I_h)) rfl 14 rfl ?_
  refine k_iconst C dX7_layStrain_14 15 rfl ?_
  refine k_istore_n C dX7_layStrain_15 rfl (by decide) [(1, .int (iI 0)), (0, .ref (qh 0))] rfl 16 rfl ?_
  refine k_lv C [1, 0] [(0, .ref (qh 0)), (1, .int (iI 0))] rfl ?_
  obtain ⟨m16, h⟩ := h
  refine w_X7_layStrain_16 C m16 0 L_h_1 (0, 1) h (fun L_h V_h h => ?_)
  · exact k_vret C dX7_layStrain_93 ⟨L_h, V_h, rfl, rfl, h⟩

/-! X7_strain -/
abbrev rm_X7_strain : Room := { frames := 6, cells := 0, slots := 0, locals := 137 }
theorem sg_X7_strain : yX7_strain.cls ≠ "java/lang/invoke/MethodHandle" ∧ yX7_strain.cls ≠ "java/lang/invoke/VarHandle" ∧ (parseMethodDescriptor yX7_strain.desc).map (fun d => d.parameters.length) = some 1 := by decide +kernel
theorem hin_X7_strain_7 : ∀ w ∈ wsX70, w ∈ wsX7_strain := fun _ h => List.mem_cons_of_mem _ (List.mem_append_right _ h)
def rp_X7_strain (cI cJ cZ : ClassId) (qh : Nat → Nat) (B_h : gMB) (P_h : gMP) (E_h : gME) (G_h : gMG) (D_h : gMD) (O_h : gMO) (Z_h : gMZ) (R_h : gMR) (I_h : gMI) (Q : Int → gMN → gML → gMV → Prop) : Option Value → va_W → Prop := fun v w1 => ∃ (r : Int) (N_h : gMN) (L_h : gML) (V_h : gMV), v = some (.long (lL r)) ∧ w1 = (wdM cI cJ cZ qh B_h P_h N_h L_h E_h V_h G_h D_h O_h Z_h R_h I_h) ∧ Q r N_h L_h V_h
def wp_X7_strain (B_h : gMB) (P_h : gMP) (N_h : gMN) (L_h : gML) (V_h : gMV) (x1 : Int) (Q : Int → gMN → gML → gMV → Prop) : Prop :=
    wp_X7_in x1 0 1 (fun (r3 : Int) => ((¬ r3 = 0 → wp_X7_asNow P_h N_h (fun (N_h_14 : gMN) => wp_X7_layStrain B_h N_h_14 L_h V_h (fun (L_h_18 : gML) (V_h_18 : gMV) => wp_X7_part V_h_18.1 (V_h_18.2 * 60466176) x1 (fun (r34 : Int) => Q r34 N_h_14 L_h_18 V_h_18)))) ∧ (¬ (¬ r3 = 0) → Q (-1000000000000000002) N_h L_h V_h)))

set_option maxHeartbeats 4000000 in
set_option maxRecDepth 20000 in
theorem c_X7_strain {l : Launch} {D : va_G} {cI cJ cZ : ClassId} (qh : Nat → Nat) (B_h : gMB) (P_h : gMP) (N_h : gMN) (L_h : gML) (E_h : gME) (V_h : gMV) (G_h : gMG) (D_h : gMD) (O_h : gMO) (Z_h : gMZ) (R_h : gMR) (I_h : gMI) (x1 : Int) (Q : Int → gMN → gML → gMV → Prop) (h : wp_X7_strain B_h P_h N_h L_h V_h x1 Q) : KM l D (kT cI cJ cZ) 0 0 yX7_strain wsX7_strain rm_X7_strain [.ref (qh 0), .int (iI x1)] ((wdM cI cJ cZ qh B_h P_h N_h L_h E_h V_h G_h D_h O_h Z_h R_h I_h)) (rp_X7_strain cI cJ cZ qh B_h P_h E_h G_h D_h O_h Z_h R_h I_h Q) := by
  refine KM_intro (lv := [(0, .ref (qh 0)), (1, .int (iI x1))]) false rfl (by decide) (Nat.le_of_ble_eq_true rfl) rfl (fun h => absurd h (by decide)) (fun v ws hq => by obtain ⟨r, N_h, L_h, V_h, rfl, rfl, _⟩ := hq; exact Or.inr (Or.inr (Or.inr ⟨rfl, _, rfl⟩))) (fun A K C => ?_)
  refine k_iload_n C dX7_strain_0 1 rfl rfl 1 rfl ?_
  refine k_iconst C dX7_strain_1 2 rfl ?_
  refine k_iconst C dX7_strain_2 3 rfl ?_
  have hM := c_X7_in (l := l) (D := D) (cI := cI) (cJ := cJ) (cZ := cZ) x1 0 1 _ h
  refine k_callS C dX7_strain_3 hM gX7_strain_X7_in rfl sg_X7_in rfl (Nat.le_of_ble_eq_true rfl) ⟨⟨rfl, rfl⟩, by decide, by decide⟩ ⟨Nat.le_refl 0, Nat.le_refl 0⟩ [] [0, 1, 2, 3, 4, 5, 6, 7, 8, 9, 10, 11, 12, 13, 14, 15, 16] rfl rfl rfl rfl (by decide) 0 0 ⟨rfl, rfl⟩ 6 rfl (fun v w1 hq3 => ?_)
  obtain ⟨r3, rfl, rfl, hb3, h⟩ := hq3
  refine k_perm C [0, 1, 2, 3, 4, 5, 6, 7, 8, 9, 10, 11, 12, 13, 14, 15, 16] [.int (iI r3)] ((wdM cI cJ cZ qh B_h P_h N_h L_h E_h V_h G_h D_h O_h Z_h R_h I_h)) rfl rfl rfl ?_
  obtain ⟨ht, hf⟩ := h
  refine k_if_ne C dX7_strain_6 (by rcases hb3 with rfl | rfl <;> decide) 13 9 (by decide) rfl (fun hc6 => ?_) (fun hc6 => ?_)
  · have h := ht hc6; clear ht hf
    refine k_aload_n C dX7_strain_13 0 rfl rfl 14 rfl ?_
    have hM := c_X7_asNow (l := l) (D := D) (cI := cI) (cJ := cJ) (cZ := cZ) qh B_h P_h N_h L_h E_h V_h G_h D_h O_h Z_h R_h I_h _ h
    refine k_callV C dX7_strain_14 hM gX7_strain_X7_asNow rfl sg_X7_asNow 7 rfl rfl rfl (Nat.le_of_ble_eq_true rfl) ⟨⟨rfl, rfl⟩, by decide, by decide⟩ ⟨Nat.le_refl 0, Nat.le_refl 0⟩ [0, 1, 2, 3, 4, 5, 6, 7, 8, 9, 10, 11, 12, 13, 14, 15, 16] [] rfl rfl rfl rfl (by decide) 0 0 ⟨rfl, rfl⟩ 17 rfl (fun v w1 hq14 => ?_)
    obtain ⟨N_h_14, rfl, rfl, h⟩ := hq14
    refine k_perm C [0, 1, 2, 3, 4, 5, 6, 7, 8, 9, 10, 11, 12, 13, 14, 15, 16] [] ((wdM cI cJ cZ qh B_h P_h N_h_14 L_h E_h V_h G_h D_h O_h Z_h R_h I_h)) rfl rfl rfl ?_
    refine k_aload_n C dX7_strain_17 0 rfl rfl 18 rfl ?_
    have hM := c_X7_layStrain (l := l) (D := D) (cI := cI) (cJ := cJ) (cZ := cZ) qh B_h P_h N_h_14 L_h E_h V_h G_h D_h O_h Z_h R_h I_h _ h
    refine k_callV C dX7_strain_18 hM gX7_strain_X7_layStrain rfl sg_X7_layStrain 7 rfl rfl rfl (Nat.le_of_ble_eq_true rfl) ⟨⟨rfl, rfl⟩, by decide, by decide⟩ ⟨Nat.le_refl 0, Nat.le_refl 0⟩ [0, 1, 2, 3, 4, 5, 6, 7, 8, 9, 10, 11, 12, 13, 14, 15, 16] [] rfl rfl rfl rfl (by decide) 0 0 ⟨rfl, rfl⟩ 21 rfl (fun v w1 hq18 => ?_)
    obtain ⟨L_h_18, V_h_18, rfl, rfl, h⟩ := hq18
    refine k_perm C [0, 1, 2, 3, 4, 5, 6, 7, 8, 9, 10, 11, 12, 13, 14, 15, 16] [] ((wdM cI cJ cZ qh B_h P_h N_h_14 L_h_18 E_h V_h_18 G_h D_h O_h Z_h R_h I_h)) rfl rfl rfl ?_
    refine k_aload_n C dX7_strain_21 0 rfl rfl 22 rfl ?_
    refine k_get C dX7_strain_22 0 rfl (ci := 7) rfl hin_X7_strain_7 15 (by decide) (List.mem_of_getElem? (i := 2) rfl) rfl 25 rfl ?_
    refine k_aload_n C dX7_strain_25 0 rfl rfl 26 rfl ?_
    refine k_get C dX7_strain_26 0 rfl (ci := 7) rfl hin_X7_strain_7 16 (by decide) (List.mem_of_getElem? (i := 3) rfl) rfl 29 rfl ?_
    refine k_ldc2 (v := 60466176) C dX7_strain_29 (List.mem_of_getElem? (i := 4) rfl) (by decide) 32 rfl ?_
    refine k_lmul C dX7_strain_32 33 rfl ?_
    refine k_iload_n C dX7_strain_33 1 rfl rfl 34 rfl ?_
    have hM := c_X7_part (l := l) (D := D) (cI := cI) (cJ := cJ) (cZ := cZ) V_h_18.1 (V_h_18.2 * 60466176) x1 _ h
    refine k_callS C dX7_strain_34 hM gX7_strain_X7_part rfl sg_X7_part rfl (Nat.le_of_ble_eq_true rfl) ⟨⟨rfl, rfl⟩, by decide, by decide⟩ ⟨Nat.le_refl 0, Nat.le_refl 0⟩ [] [0, 1, 2, 3, 4, 5, 6, 7, 8, 9, 10, 11, 12, 13, 14, 15, 16] rfl rfl rfl rfl (by decide) 0 0 ⟨rfl, rfl⟩ 37 rfl (fun v w1 hq34 => ?_)
    obtain ⟨r34, rfl, rfl, h⟩ := hq34
    refine k_perm C [0, 1, 2, 3, 4, 5, 6, 7, 8, 9, 10, 11, 12, 13, 14, 15, 16] [.long (lL r34)] ((wdM cI cJ cZ qh B_h P_h N_h_14 L_h_18 E_h V_h_18 G_h D_h O_h Z_h R_h I_h)) rfl rfl rfl ?_
    exact k_lret C dX7_strain_37 ⟨r34, N_h_14, L_h_18, V_h_18, rfl, rfl, h⟩
  · have h := hf hc6; clear ht hf
    refine k_ldc2 (v := (-1000000000000000002)) C dX7_strain_9 (List.mem_of_getElem? (i := 1) rfl) (by decide) 12 rfl ?_
    exact k_lret C dX7_strain_12 ⟨(-1000000000000000002), N_h, L_h, V_h, rfl, rfl, h⟩
