/-! X7_bulges -/
abbrev rm_X7_bulges : Room := { frames := 5, cells := 0, slots := 0, locals := 116 }
theorem sg_X7_bulges : yX7_bulges.cls ≠ "java/lang/invoke/MethodHandle" ∧ yX7_bulges.cls ≠ "java/lang/invoke/VarHandle" ∧ (parseMethodDescriptor yX7_bulges.desc).map (fun d => d.parameters.length) = some 0 := by decide +kernel
theorem hin_X7_bulges_7 : ∀ w ∈ wsX70, w ∈ wsX7_bulges := fun _ h => List.mem_cons_of_mem _ (List.mem_append_right _ h)
def rp_X7_bulges (cI cJ cZ : ClassId) (qh : Nat → Nat) (B_h : gMB) (P_h : gMP) (E_h : gME) (V_h : gMV) (G_h : gMG) (D_h : gMD) (O_h : gMO) (Z_h : gMZ) (R_h : gMR) (I_h : gMI) (Q : Int → gMN → gML → Prop) : Option Value → va_W → Prop := fun v w1 => ∃ (r : Int) (N_h : gMN) (L_h : gML), v = some (.int (iI r)) ∧ w1 = (wdM cI cJ cZ qh B_h P_h N_h L_h E_h V_h G_h D_h O_h Z_h R_h I_h) ∧ Q r N_h L_h
def wp_X7_bulges_12 (B_h : gMB) (K_67 : Int → gMN → gML → Prop)  (Q : Int → gMN → gML → Prop) : Nat → Int → Int → gMN → gML → Prop
  | 0, _, _, _, _ => False
  | n12 + 1, x1, x2, N_h, L_h =>
    rI x2 ∧ ((10 ≤ x2 → K_67 x1 N_h L_h) ∧ (¬ (10 ≤ x2) → wp_X7_isIn N_h x2 (fun (r21 : Int) => ((r21 = 0 → wp_X7_bulges_12 B_h K_67 Q n12 (ior x1 0) (x2 + 1) N_h L_h) ∧ (¬ (r21 = 0) → (0 ≤ x2 ∧ x2 < 10) ∧ rI (B_h.2.2.2.2 x2) ∧ rL (4 * (L_h x2)) ∧ rL (181398528 * (B_h.2.2.2.2 x2)) ∧ (((4 * (L_h x2)) ≤ (181398528 * (B_h.2.2.2.2 x2)) → wp_X7_bulges_12 B_h K_67 Q n12 (ior x1 0) (x2 + 1) N_h L_h) ∧ (¬ ((4 * (L_h x2)) ≤ (181398528 * (B_h.2.2.2.2 x2))) → wp_X7_bulges_12 B_h K_67 Q n12 (ior x1 (ishl 1 x2)) (x2 + 1) N_h L_h)))))))
def wp_X7_bulges (B_h : gMB) (P_h : gMP) (N_h : gMN) (L_h : gML) (Q : Int → gMN → gML → Prop) : Prop :=
    wp_X7_asNow P_h N_h (fun (N_h_1 : gMN) => wp_X7_layLoads B_h N_h_1 L_h (fun (L_h_5 : gML) => ∃ m12, wp_X7_bulges_12 B_h (fun (x1 : Int) (N_h : gMN) (L_h : gML) => Q x1 N_h L_h) Q m12 0 0 N_h_1 L_h_5))
set_option maxHeartbeats 4000000 in
set_option maxRecDepth 20000 in
theorem w_X7_bulges_12 {l : Launch} {D : va_G} {cI cJ cZ : ClassId} {A : Nat → Prop} {K : KT} {qh : Nat → Nat} {B_h : gMB} {P_h : gMP} {E_h : gME} {V_h : gMV} {G_h : gMG} {D_h : gMD} {O_h : gMO} {Z_h : gMZ} {R_h : gMR} {I_h : gMI} {Q : Int → gMN → gML → Prop} {K_67 : Int → gMN → gML → Prop} (C : KC cX7_bulges yX7_bulges.cls wsX7_bulges rm_X7_bulges 3 D (kT cI cJ cZ) A l false (rp_X7_bulges cI cJ cZ qh B_h P_h E_h V_h G_h D_h O_h Z_h R_h I_h Q) 0 0 K) : ∀ (n : Nat) (x1 : Int) (x2 : Int) (N_h : gMN) (L_h : gML), wp_X7_bulges_12 B_h K_67 Q n x1 x2 N_h L_h → (∀ (x1 : Int) (N_h : gMN) (L_h : gML), K_67 x1 N_h L_h → K 0 0 67 [(1, .int (iI x1))] [] ((wdM cI cJ cZ qh B_h P_h N_h L_h E_h V_h G_h D_h O_h Z_h R_h I_h))) → K 0 0 12 [(0, .ref (qh 0)), (1, .int (iI x1)), (2, .int (iI x2))] [] ((wdM cI cJ cZ qh B_h P_h N_h L_h E_h V_h G_h D_h O_h Z_h R_h I_h)) := by
  intro n
  induction n with
  | zero => intro x1 x2 N_h L_h h; exact h.elim
  | succ n ih =>
    intro x1 x2 N_h L_h h hK_67
    refine k_iload_n C dX7_bulges_12 2 rfl rfl 13 rfl ?_
    refine k_bipush C dX7_bulges_13 (by decide) 15 rfl ?_
    obtain ⟨hr15a, h⟩ := h
    obtain ⟨ht, hf⟩ := h
    refine k_icmp_ge C dX7_bulges_15 ⟨hr15a, (by decide)⟩ 67 18 (by decide) rfl (fun hc15 => ?_) (fun hc15 => ?_)
    · have h := ht hc15; clear ht hf
      refine k_lv C [1] [(1, .int (iI x1))] rfl ?_
      exact hK_67 x1 N_h L_h h
    · have h := hf hc15; clear ht hf
      refine k_iload_n C dX7_bulges_18 1 rfl rfl 19 rfl ?_
      refine k_aload_n C dX7_bulges_19 0 rfl rfl 20 rfl ?_
      refine k_iload_n C dX7_bulges_20 2 rfl rfl 21 rfl ?_
      have hM := c_X7_isIn (l := l) (D := D) (cI := cI) (cJ := cJ) (cZ := cZ) qh B_h P_h N_h L_h E_h V_h G_h D_h O_h Z_h R_h I_h x2 _ h
      refine k_callV C dX7_bulges_21 hM gX7_bulges_X7_isIn rfl sg_X7_isIn 7 rfl rfl rfl (Nat.le_of_ble_eq_true rfl) ⟨⟨rfl, rfl⟩, by decide, by decide⟩ ⟨Nat.le_refl 0, Nat.le_refl 0⟩ [0, 1, 2, 3, 4, 5, 6, 7, 8, 9, 10, 11, 12, 13, 14, 15, 16] [] rfl rfl rfl rfl (by decide) 0 0 ⟨rfl, rfl⟩ 24 rfl (fun v w1 hq21 => ?_)
      obtain ⟨r21, rfl, rfl, hb21, h⟩ := hq21
      refine k_perm C [0, 1, 2, 3, 4, 5, 6, 7, 8, 9, 10, 11, 12, 13, 14, 15, 16] [.int (iI r21), .int (iI x1)] ((wdM cI cJ cZ qh B_h P_h N_h L_h E_h V_h G_h D_h O_h Z_h R_h I_h)) rfl rfl rfl ?_
      obtain ⟨ht, hf⟩ := h
      refine k_if_eq C dX7_bulges_24 (by rcases hb21 with rfl | rfl <;> decide) 58 27 (by decide) rfl (fun hc24 => ?_) (fun hc24 => ?_)
      · have h := ht hc24; clear ht hf
        refine k_iconst C dX7_bulges_58 59 rfl ?_
        refine k_ior C dX7_bulges_59 60 rfl ?_
        refine k_istore_n C dX7_bulges_60 rfl (by decide) [(1, .int (iI (ior x1 0))), (0, .ref (qh 0)), (2, .int (iI x2))] rfl 61 rfl ?_
        refine k_iinc (j := 2) C dX7_bulges_61 rfl (by decide) [(2, .int (iI (x2 + 1))), (1, .int (iI (ior x1 0))), (0, .ref (qh 0))] rfl 64 rfl ?_
        refine k_goto C dX7_bulges_64 12 (by decide) ?_
        refine k_lv C [2, 1, 0] [(0, .ref (qh 0)), (1, .int (iI (ior x1 0))), (2, .int (iI (x2 + 1)))] rfl ?_
        exact ih (ior x1 0) (x2 + 1) N_h L_h h hK_67
      · have h := hf hc24; clear ht hf
        refine k_ldc2 (v := 4) C dX7_bulges_27 (List.mem_of_getElem? (i := 1) rfl) (by decide) 30 rfl ?_
        refine k_aload_n C dX7_bulges_30 0 rfl rfl 31 rfl ?_
        refine k_get C dX7_bulges_31 0 rfl (ci := 7) rfl hin_X7_bulges_7 13 (by decide) (List.mem_of_getElem? (i := 2) rfl) rfl 34 rfl ?_
        refine k_iload_n C dX7_bulges_34 2 rfl rfl 35 rfl ?_
        obtain ⟨hi35, h⟩ := h
        refine k_laload C dX7_bulges_35 10 1 rfl rfl (by decide) hi35 36 rfl ?_
        refine k_lmul C dX7_bulges_36 37 rfl ?_
        refine k_ldc2 (v := 181398528) C dX7_bulges_37 (List.mem_of_getElem? (i := 3) rfl) (by decide) 40 rfl ?_
        refine k_aload_n C dX7_bulges_40 0 rfl rfl 41 rfl ?_
        refine k_get C dX7_bulges_41 0 rfl (ci := 7) rfl hin_X7_bulges_7 4 (by decide) (List.mem_of_getElem? (i := 4) rfl) rfl 44 rfl ?_
        refine k_iload_n C dX7_bulges_44 2 rfl rfl 45 rfl ?_
        refine k_iaload C dX7_bulges_45 3 0 rfl rfl (by decide) hi35 46 rfl ?_
        obtain ⟨hr46a, h⟩ := h
        refine k_i2l C dX7_bulges_46 hr46a 47 rfl ?_
        refine k_lmul C dX7_bulges_47 48 rfl ?_
        obtain ⟨hr48a, hr48b, h⟩ := h
        obtain ⟨ht, hf⟩ := h
        refine k_lcmp_le C dX7_bulges_48 dX7_bulges_49 ⟨hr48a, hr48b⟩ 58 52 (by decide) rfl (fun hc48 => ?_) (fun hc48 => ?_)
        · have h := ht hc48; clear ht hf
          refine k_iconst C dX7_bulges_58 59 rfl ?_
          refine k_ior C dX7_bulges_59 60 rfl ?_
          refine k_istore_n C dX7_bulges_60 rfl (by decide) [(1, .int (iI (ior x1 0))), (0, .ref (qh 0)), (2, .int (iI x2))] rfl 61 rfl ?_
          refine k_iinc (j := 2) C dX7_bulges_61 rfl (by decide) [(2, .int (iI (x2 + 1))), (1, .int (iI (ior x1 0))), (0, .ref (qh 0))] rfl 64 rfl ?_
          refine k_goto C dX7_bulges_64 12 (by decide) ?_
          refine k_lv C [2, 1, 0] [(0, .ref (qh 0)), (1, .int (iI (ior x1 0))), (2, .int (iI (x2 + 1)))] rfl ?_
          exact ih (ior x1 0) (x2 + 1) N_h L_h h hK_67
        · have h := hf hc48; clear ht hf
          refine k_iconst C dX7_bulges_52 53 rfl ?_
          refine k_iload_n C dX7_bulges_53 2 rfl rfl 54 rfl ?_
          refine k_ishl C dX7_bulges_54 55 rfl ?_
          refine k_goto C dX7_bulges_55 59 (by decide) ?_
          refine k_ior C dX7_bulges_59 60 rfl ?_
          refine k_istore_n C dX7_bulges_60 rfl (by decide) [(1, .int (iI (ior x1 (ishl 1 x2)))), (0, .ref (qh 0)), (2, .int (iI x2))] rfl 61 rfl ?_
          refine k_iinc (j := 2) C dX7_bulges_61 rfl (by decide) [(2, .int (iI (x2 + 1))), (1, .int (iI (ior x1 (ishl 1 x2)))), (0, .ref (qh 0))] rfl 64 rfl ?_
          refine k_goto C dX7_bulges_64 12 (by decide) ?_
          refine k_lv C [2, 1, 0] [(0, .ref (qh 0)), (1, .int (iI (ior x1 (ishl 1 x2)))), (2, .int (iI (x2 + 1)))] rfl ?_
          exact ih (ior x1 (ishl 1 x2)) (x2 + 1) N_h L_h h hK_67
set_option maxHeartbeats 4000000 in
set_option maxRecDepth 20000 in
theorem c_X7_bulges {l : Launch} {D : va_G} {cI cJ cZ : ClassId} (qh : Nat → Nat) (B_h : gMB) (P_h : gMP) (N_h : gMN) (L_h : gML) (E_h : gME) (V_h : gMV) (G_h : gMG) (D_h : gMD) (O_h : gMO) (Z_h : gMZ) (R_h : gMR) (I_h : gMI) (Q : Int → gMN → gML → Prop) (h : wp_X7_bulges B_h P_h N_h L_h Q) : KM l D (kT cI cJ cZ) 0 0 yX7_bulges wsX7_bulges rm_X7_bulges [.ref (qh 0)] ((wdM cI cJ cZ qh B_h P_h N_h L_h E_h V_h G_h D_h O_h Z_h R_h I_h)) (rp_X7_bulges cI cJ cZ qh B_h P_h E_h V_h G_h D_h O_h Z_h R_h I_h Q) := by
  refine KM_intro (lv := [(0, .ref (qh 0))]) false rfl (by decide) (Nat.le_of_ble_eq_true rfl) rfl (fun h => absurd h (by decide)) (fun v ws hq => by obtain ⟨r, N_h, L_h, rfl, rfl, _⟩ := hq; exact Or.inr (Or.inl ⟨rfl, _, rfl⟩)) (fun A K C => ?_)
  refine k_aload_n C dX7_bulges_0 0 rfl rfl 1 rfl ?_
  have hM := c_X7_asNow (l := l) (D := D) (cI := cI) (cJ := cJ) (cZ := cZ) qh B_h P_h N_h L_h E_h V_h G_h D_h O_h Z_h R_h I_h _ h
  refine k_callV C dX7_bulges_1 hM gX7_bulges_X7_asNow rfl sg_X7_asNow 7 rfl rfl rfl (Nat.le_of_ble_eq_true rfl) ⟨⟨rfl, rfl⟩, by decide, by decide⟩ ⟨Nat.le_refl 0, Nat.le_refl 0⟩ [0, 1, 2, 3, 4, 5, 6, 7, 8, 9, 10, 11, 12, 13, 14, 15, 16] [] rfl rfl rfl rfl (by decide) 0 0 ⟨rfl, rfl⟩ 4 rfl (fun v w1 hq1 => ?_)
  obtain ⟨N_h_1, rfl, rfl, h⟩ := hq1
  refine k_perm C [0, 1, 2, 3, 4, 5, 6, 7, 8, 9, 10, 11, 12, 13, 14, 15, 16] [] ((wdM cI cJ cZ qh B_h P_h N_h_1 L_h E_h V_h G_h D_h O_h Z_h R_h I_h)) rfl rfl rfl ?_
  refine k_aload_n C dX7_bulges_4 0 rfl rfl 5 rfl ?_
  have hM := c_X7_layLoads (l := l) (D := D) (cI := cI) (cJ := cJ) (cZ := cZ) qh B_h P_h N_h_1 L_h E_h V_h G_h D_h O_h Z_h R_h I_h _ h
  refine k_callV C dX7_bulges_5 hM gX7_bulges_X7_layLoads rfl sg_X7_layLoads 7 rfl rfl rfl (Nat.le_of_ble_eq_true rfl) ⟨⟨rfl, rfl⟩, by decide, by decide⟩ ⟨Nat.le_refl 0, Nat.le_refl 0⟩ [0, 1, 2, 3, 4, 5, 6, 7, 8, 9, 10, 11, 12, 13, 14, 15, 16] [] rfl rfl rfl rfl (by decide) 0 0 ⟨rfl, rfl⟩ 8 rfl (fun v w1 hq5 => ?_)
  obtain ⟨L_h_5, rfl, rfl, h⟩ := hq5
  refine k_perm C [0, 1, 2, 3, 4, 5, 6, 7, 8, 9, 10, 11, 12, 13, 14, 15, 16] [] ((wdM cI cJ cZ qh B_h P_h N_h_1 L_h_5 E_h V_h G_h D_h O_h Z_h R_h I_h)) rfl rfl rfl ?_
  refine k_iconst C dX7_bulges_8 9 rfl ?_
  refine k_istore_n C dX7_bulges_9 rfl (by decide) [(1, .int (iI 0)), (0, .ref (qh 0))] rfl 10 rfl ?_
  refine k_iconst C dX7_bulges_10 11 rfl ?_
  refine k_istore_n C dX7_bulges_11 rfl (by decide) [(2, .int (iI 0)), (1, .int (iI 0)), (0, .ref (qh 0))] rfl 12 rfl ?_
  refine k_lv C [2, 1, 0] [(0, .ref (qh 0)), (1, .int (iI 0)), (2, .int (iI 0))] rfl ?_
  obtain ⟨m12, h⟩ := h
  refine w_X7_bulges_12 C m12 0 0 N_h_1 L_h_5 h (fun x1 N_h L_h h => ?_)
  · refine k_iload_n C dX7_bulges_67 0 rfl rfl 68 rfl ?_
    exact k_iret C dX7_bulges_68 ⟨x1, N_h, L_h, rfl, rfl, h⟩

/-! X7_doTouch -/
abbrev rm_X7_doTouch : Room := { frames := 1, cells := 0, slots := 0, locals := 21 }
theorem sg_X7_doTouch : yX7_doTouch.cls ≠ "java/lang/invoke/MethodHandle" ∧ yX7_doTouch.cls ≠ "java/lang/invoke/VarHandle" ∧ (parseMethodDescriptor yX7_doTouch.desc).map (fun d => d.parameters.length) = some 2 := by decide +kernel
theorem hin_X7_doTouch_7 : ∀ w ∈ wsX70, w ∈ wsX7_doTouch := fun _ h => List.mem_cons_of_mem _ (List.mem_append_right _ h)
def rp_X7_doTouch (cI cJ cZ : ClassId) (qh : Nat → Nat) (B_h : gMB) (P_h : gMP) (N_h : gMN) (L_h : gML) (E_h : gME) (V_h : gMV) (G_h : gMG) (D_h : gMD) (O_h : gMO) (Z_h : gMZ) (R_h : gMR) (I_h : gMI) (Q : Int → Prop) : Option Value → va_W → Prop := fun v w1 => ∃ (r : Int), v = some (.int (iI r)) ∧ w1 = (wdM cI cJ cZ qh B_h P_h N_h L_h E_h V_h G_h D_h O_h Z_h R_h I_h) ∧ (r = 0 ∨ r = 1) ∧ Q r
def wp_X7_doTouch_132 (N_h : gMN)  (Q : Int → Prop) (x1 : Int) (x2 : Int) (x3 : Int) (s0 : Int) : Prop :=
    rI x3 ∧ ((¬ x3 = 0 → Q 1) ∧ (¬ (¬ x3 = 0) → rI s0 ∧ ((s0 = 0 → Q 0) ∧ (¬ (s0 = 0) → (0 ≤ x1 ∧ x1 < 10) ∧ (0 ≤ x2 ∧ x2 < 10) ∧ rI ((N_h.1 x1) - (N_h.1 x2)) ∧ ((((N_h.1 x1) - (N_h.1 x2)) = 1 → Q 1) ∧ (¬ (((N_h.1 x1) - (N_h.1 x2)) = 1) → rI ((N_h.1 x2) - (N_h.1 x1)) ∧ ((¬ ((N_h.1 x2) - (N_h.1 x1)) = 1 → Q 0) ∧ (¬ (¬ ((N_h.1 x2) - (N_h.1 x1)) = 1) → Q 1))))))))
def wp_X7_doTouch_82 (B_h : gMB) (N_h : gMN)  (Q : Int → Prop) (x1 : Int) (x2 : Int) (s0 : Int) : Prop :=
    (0 ≤ x1 ∧ x1 < 10) ∧ (0 ≤ x2 ∧ x2 < 10) ∧ rI (N_h.2 x1) ∧ rI ((N_h.2 x2) + (B_h.2.2.1 x2)) ∧ ((((N_h.2 x2) + (B_h.2.2.1 x2)) ≤ (N_h.2 x1) → wp_X7_doTouch_132 N_h Q x1 x2 s0 0) ∧ (¬ (((N_h.2 x2) + (B_h.2.2.1 x2)) ≤ (N_h.2 x1)) → rI (N_h.2 x2) ∧ rI ((N_h.2 x1) + (B_h.2.2.1 x1)) ∧ ((((N_h.2 x1) + (B_h.2.2.1 x1)) ≤ (N_h.2 x2) → wp_X7_doTouch_132 N_h Q x1 x2 s0 0) ∧ (¬ (((N_h.2 x1) + (B_h.2.2.1 x1)) ≤ (N_h.2 x2)) → wp_X7_doTouch_132 N_h Q x1 x2 s0 1))))
def wp_X7_doTouch (B_h : gMB) (N_h : gMN) (x1 : Int) (x2 : Int) (Q : Int → Prop) : Prop :=
    wp_X7_isIn N_h x1 (fun (r2 : Int) => ((r2 = 0 → Q 0) ∧ (¬ (r2 = 0) → wp_X7_isIn N_h x2 (fun (r10 : Int) => ((¬ r10 = 0 → (0 ≤ x1 ∧ x1 < 10) ∧ (0 ≤ x2 ∧ x2 < 10) ∧ rI (N_h.1 x1) ∧ rI (N_h.1 x2) ∧ ((¬ (N_h.1 x1) = (N_h.1 x2) → wp_X7_doTouch_82 B_h N_h Q x1 x2 0) ∧ (¬ (¬ (N_h.1 x1) = (N_h.1 x2)) → rI ((N_h.2 x1) + (B_h.2.2.1 x1)) ∧ rI (N_h.2 x2) ∧ ((((N_h.2 x1) + (B_h.2.2.1 x1)) = (N_h.2 x2) → wp_X7_doTouch_82 B_h N_h Q x1 x2 1) ∧ (¬ (((N_h.2 x1) + (B_h.2.2.1 x1)) = (N_h.2 x2)) → rI ((N_h.2 x2) + (B_h.2.2.1 x2)) ∧ rI (N_h.2 x1) ∧ ((¬ ((N_h.2 x2) + (B_h.2.2.1 x2)) = (N_h.2 x1) → wp_X7_doTouch_82 B_h N_h Q x1 x2 0) ∧ (¬ (¬ ((N_h.2 x2) + (B_h.2.2.1 x2)) = (N_h.2 x1)) → wp_X7_doTouch_82 B_h N_h Q x1 x2 1))))))) ∧ (¬ (¬ r10 = 0) → Q 0))))))
set_option maxHeartbeats 4000000 in
set_option maxRecDepth 20000 in
theorem w_X7_doTouch_132 {l : Launch} {D : va_G} {cI cJ cZ : ClassId} {A : Nat → Prop} {K : KT} {qh : Nat → Nat} {B_h : gMB} {P_h : gMP} {N_h : gMN} {L_h : gML} {E_h : gME} {V_h : gMV} {G_h : gMG} {D_h : gMD} {O_h : gMO} {Z_h : gMZ} {R_h : gMR} {I_h : gMI} {Q : Int → Prop} (C : KC cX7_doTouch yX7_doTouch.cls wsX7_doTouch rm_X7_doTouch 5 D (kT cI cJ cZ) A l false (rp_X7_doTouch cI cJ cZ qh B_h P_h N_h L_h E_h V_h G_h D_h O_h Z_h R_h I_h Q) 0 0 K) : ∀ (x1 : Int) (x2 : Int) (x3 : Int) (s0 : Int), wp_X7_doTouch_132 N_h Q x1 x2 x3 s0 → K 0 0 132 [(0, .ref (qh 0)), (1, .int (iI x1)), (2, .int (iI x2)), (3, .int (iI x3))] [.int (iI s0)] ((wdM cI cJ cZ qh B_h P_h N_h L_h E_h V_h G_h D_h O_h Z_h R_h I_h)) := by
  intro x1 x2 x3 s0 h 
  refine k_istore C dX7_doTouch_132 (by decide) [(4, .int (iI s0)), (0, .ref (qh 0)), (1, .int (iI x1)), (2, .int (iI x2)), (3, .int (iI x3))] rfl 134 rfl ?_
  refine k_iload_n C dX7_doTouch_134 4 rfl rfl 135 rfl ?_
  obtain ⟨hr135a, h⟩ := h
  obtain ⟨ht, hf⟩ := h
  refine k_if_ne C dX7_doTouch_135 hr135a 177 138 (by decide) rfl (fun hc135 => ?_) (fun hc135 => ?_)
  · have h := ht hc135; clear ht hf
    refine k_iconst C dX7_doTouch_177 178 rfl ?_
    refine k_goto C dX7_doTouch_178 182 (by decide) ?_
    exact k_iret C dX7_doTouch_182 ⟨1, rfl, rfl, (by decide), h⟩
  · have h := hf hc135; clear ht hf
    refine k_iload C dX7_doTouch_138 0 rfl 140 rfl ?_
    obtain ⟨hr140a, h⟩ := h
    obtain ⟨ht, hf⟩ := h
    refine k_if_eq C dX7_doTouch_140 hr140a 181 143 (by decide) rfl (fun hc140 => ?_) (fun hc140 => ?_)
    · have h := ht hc140; clear ht hf
      refine k_iconst C dX7_doTouch_181 182 rfl ?_
      exact k_iret C dX7_doTouch_182 ⟨0, rfl, rfl, (by decide), h⟩
    · have h := hf hc140; clear ht hf
      refine k_aload_n C dX7_doTouch_143 1 rfl rfl 144 rfl ?_
      refine k_get C dX7_doTouch_144 0 rfl (ci := 7) rfl hin_X7_doTouch_7 11 (by decide) (List.mem_of_getElem? (i := 1) rfl) rfl 147 rfl ?_
      refine k_iload_n C dX7_doTouch_147 2 rfl rfl 148 rfl ?_
      obtain ⟨hi148, h⟩ := h
      refine k_iaload C dX7_doTouch_148 8 0 rfl rfl (by decide) hi148 149 rfl ?_
      refine k_aload_n C dX7_doTouch_149 1 rfl rfl 150 rfl ?_
      refine k_get C dX7_doTouch_150 0 rfl (ci := 7) rfl hin_X7_doTouch_7 11 (by decide) (List.mem_of_getElem? (i := 1) rfl) rfl 153 rfl ?_
      refine k_iload_n C dX7_doTouch_153 3 rfl rfl 154 rfl ?_
      obtain ⟨hi154, h⟩ := h
      refine k_iaload C dX7_doTouch_154 8 0 rfl rfl (by decide) hi154 155 rfl ?_
      refine k_isub C dX7_doTouch_155 156 rfl ?_
      refine k_iconst C dX7_doTouch_156 157 rfl ?_
      obtain ⟨hr157a, h⟩ := h
      obtain ⟨ht, hf⟩ := h
      refine k_icmp_eq C dX7_doTouch_157 ⟨hr157a, (by decide)⟩ 177 160 (by decide) rfl (fun hc157 => ?_) (fun hc157 => ?_)
      · have h := ht hc157; clear ht hf
        refine k_iconst C dX7_doTouch_177 178 rfl ?_
        refine k_goto C dX7_doTouch_178 182 (by decide) ?_
        exact k_iret C dX7_doTouch_182 ⟨1, rfl, rfl, (by decide), h⟩
      · have h := hf hc157; clear ht hf
        refine k_aload_n C dX7_doTouch_160 1 rfl rfl 161 rfl ?_
        refine k_get C dX7_doTouch_161 0 rfl (ci := 7) rfl hin_X7_doTouch_7 11 (by decide) (List.mem_of_getElem? (i := 1) rfl) rfl 164 rfl ?_
        refine k_iload_n C dX7_doTouch_164 3 rfl rfl 165 rfl ?_
        refine k_iaload C dX7_doTouch_165 8 0 rfl rfl (by decide) hi154 166 rfl ?_
        refine k_aload_n C dX7_doTouch_166 1 rfl rfl 167 rfl ?_
        refine k_get C dX7_doTouch_167 0 rfl (ci := 7) rfl hin_X7_doTouch_7 11 (by decide) (List.mem_of_getElem? (i := 1) rfl) rfl 170 rfl ?_
        refine k_iload_n C dX7_doTouch_170 2 rfl rfl 171 rfl ?_
        refine k_iaload C dX7_doTouch_171 8 0 rfl rfl (by decide) hi148 172 rfl ?_
        refine k_isub C dX7_doTouch_172 173 rfl ?_
        refine k_iconst C dX7_doTouch_173 174 rfl ?_
        obtain ⟨hr174a, h⟩ := h
        obtain ⟨ht, hf⟩ := h
        refine k_icmp_ne C dX7_doTouch_174 ⟨hr174a, (by decide)⟩ 181 177 (by decide) rfl (fun hc174 => ?_) (fun hc174 => ?_)
        · have h := ht hc174; clear ht hf
          refine k_iconst C dX7_doTouch_181 182 rfl ?_
          exact k_iret C dX7_doTouch_182 ⟨0, rfl, rfl, (by decide), h⟩
        · have h := hf hc174; clear ht hf
          refine k_iconst C dX7_doTouch_177 178 rfl ?_
          refine k_goto C dX7_doTouch_178 182 (by decide) ?_
          exact k_iret C dX7_doTouch_182 ⟨1, rfl, rfl, (by decide), h⟩
set_option maxHeartbeats 4000000 in
set_option maxRecDepth 20000 in
theorem w_X7_doTouch_82 {l : Launch} {D : va_G} {cI cJ cZ : ClassId} {A : Nat → Prop} {K : KT} {qh : Nat → Nat} {B_h : gMB} {P_h : gMP} {N_h : gMN} {L_h : gML} {E_h : gME} {V_h : gMV} {G_h : gMG} {D_h : gMD} {O_h : gMO} {Z_h : gMZ} {R_h : gMR} {I_h : gMI} {Q : Int → Prop} (C : KC cX7_doTouch yX7_doTouch.cls wsX7_doTouch rm_X7_doTouch 5 D (kT cI cJ cZ) A l false (rp_X7_doTouch cI cJ cZ qh B_h P_h N_h L_h E_h V_h G_h D_h O_h Z_h R_h I_h Q) 0 0 K) : ∀ (x1 : Int) (x2 : Int) (s0 : Int), wp_X7_doTouch_82 B_h N_h Q x1 x2 s0 → K 0 0 82 [(0, .ref (qh 0)), (1, .int (iI x1)), (2, .int (iI x2))] [.int (iI s0)] ((wdM cI cJ cZ qh B_h P_h N_h L_h E_h V_h G_h D_h O_h Z_h R_h I_h)) := by
  intro x1 x2 s0 h 
  refine k_istore_n C dX7_doTouch_82 rfl (by decide) [(3, .int (iI s0)), (0, .ref (qh 0)), (1, .int (iI x1)), (2, .int (iI x2))] rfl 83 rfl ?_
  refine k_aload_n C dX7_doTouch_83 1 rfl rfl 84 rfl ?_
  refine k_get C dX7_doTouch_84 0 rfl (ci := 7) rfl hin_X7_doTouch_7 12 (by decide) (List.mem_of_getElem? (i := 2) rfl) rfl 87 rfl ?_
  refine k_iload_n C dX7_doTouch_87 2 rfl rfl 88 rfl ?_
  obtain ⟨hi88, h⟩ := h
  refine k_iaload C dX7_doTouch_88 9 0 rfl rfl (by decide) hi88 89 rfl ?_
  refine k_aload_n C dX7_doTouch_89 1 rfl rfl 90 rfl ?_
  refine k_get C dX7_doTouch_90 0 rfl (ci := 7) rfl hin_X7_doTouch_7 12 (by decide) (List.mem_of_getElem? (i := 2) rfl) rfl 93 rfl ?_
  refine k_iload_n C dX7_doTouch_93 3 rfl rfl 94 rfl ?_
  obtain ⟨hi94, h⟩ := h
  refine k_iaload C dX7_doTouch_94 9 0 rfl rfl (by decide) hi94 95 rfl ?_
  refine k_aload_n C dX7_doTouch_95 1 rfl rfl 96 rfl ?_
  refine k_get C dX7_doTouch_96 0 rfl (ci := 7) rfl hin_X7_doTouch_7 2 (by decide) (List.mem_of_getElem? (i := 3) rfl) rfl 99 rfl ?_
  refine k_iload_n C dX7_doTouch_99 3 rfl rfl 100 rfl ?_
  refine k_iaload C dX7_doTouch_100 1 0 rfl rfl (by decide) hi94 101 rfl ?_
  refine k_iadd C dX7_doTouch_101 102 rfl ?_
  obtain ⟨hr102a, hr102b, h⟩ := h
  obtain ⟨ht, hf⟩ := h
  refine k_icmp_ge C dX7_doTouch_102 ⟨hr102a, hr102b⟩ 131 105 (by decide) rfl (fun hc102 => ?_) (fun hc102 => ?_)
  · have h := ht hc102; clear ht hf
    refine k_iconst C dX7_doTouch_131 132 rfl ?_
    refine k_lv C [1, 2, 3, 0] [(0, .ref (qh 0)), (1, .int (iI x1)), (2, .int (iI x2)), (3, .int (iI s0))] rfl ?_
    refine w_X7_doTouch_132 C x1 x2 s0 0 h
  · have h := hf hc102; clear ht hf
    refine k_aload_n C dX7_doTouch_105 1 rfl rfl 106 rfl ?_
    refine k_get C dX7_doTouch_106 0 rfl (ci := 7) rfl hin_X7_doTouch_7 12 (by decide) (List.mem_of_getElem? (i := 2) rfl) rfl 109 rfl ?_
    refine k_iload_n C dX7_doTouch_109 3 rfl rfl 110 rfl ?_
    refine k_iaload C dX7_doTouch_110 9 0 rfl rfl (by decide) hi94 111 rfl ?_
    refine k_aload_n C dX7_doTouch_111 1 rfl rfl 112 rfl ?_
    refine k_get C dX7_doTouch_112 0 rfl (ci := 7) rfl hin_X7_doTouch_7 12 (by decide) (List.mem_of_getElem? (i := 2) rfl) rfl 115 rfl ?_
    refine k_iload_n C dX7_doTouch_115 2 rfl rfl 116 rfl ?_
    refine k_iaload C dX7_doTouch_116 9 0 rfl rfl (by decide) hi88 117 rfl ?_
    refine k_aload_n C dX7_doTouch_117 1 rfl rfl 118 rfl ?_
    refine k_get C dX7_doTouch_118 0 rfl (ci := 7) rfl hin_X7_doTouch_7 2 (by decide) (List.mem_of_getElem? (i := 3) rfl) rfl 121 rfl ?_
    refine k_iload_n C dX7_doTouch_121 2 rfl rfl 122 rfl ?_
    refine k_iaload C dX7_doTouch_122 1 0 rfl rfl (by decide) hi88 123 rfl ?_
    refine k_iadd C dX7_doTouch_123 124 rfl ?_
    obtain ⟨hr124a, hr124b, h⟩ := h
    obtain ⟨ht, hf⟩ := h
    refine k_icmp_ge C dX7_doTouch_124 ⟨hr124a, hr124b⟩ 131 127 (by decide) rfl (fun hc124 => ?_) (fun hc124 => ?_)
    · have h := ht hc124; clear ht hf
      refine k_iconst C dX7_doTouch_131 132 rfl ?_
      refine k_lv C [1, 2, 3, 0] [(0, .ref (qh 0)), (1, .int (iI x1)), (2, .int (iI x2)), (3, .int (iI s0))] rfl ?_
      refine w_X7_doTouch_132 C x1 x2 s0 0 h
    · have h := hf hc124; clear ht hf
      refine k_iconst C dX7_doTouch_127 128 rfl ?_
      refine k_goto C dX7_doTouch_128 132 (by decide) ?_
      refine k_lv C [1, 2, 3, 0] [(0, .ref (qh 0)), (1, .int (iI x1)), (2, .int (iI x2)), (3, .int (iI s0))] rfl ?_
      refine w_X7_doTouch_132 C x1 x2 s0 1 h
set_option maxHeartbeats 4000000 in
set_option maxRecDepth 20000 in
theorem c_X7_doTouch {l : Launch} {D : va_G} {cI cJ cZ : ClassId} (qh : Nat → Nat) (B_h : gMB) (P_h : gMP) (N_h : gMN) (L_h : gML) (E_h : gME) (V_h : gMV) (G_h : gMG) (D_h : gMD) (O_h : gMO) (Z_h : gMZ) (R_h : gMR) (I_h : gMI) (x1 : Int) (x2 : Int) (Q : Int → Prop) (h : wp_X7_doTouch B_h N_h x1 x2 Q) : KM l D (kT cI cJ cZ) 0 0 yX7_doTouch wsX7_doTouch rm_X7_doTouch [.ref (qh 0), .int (iI x1), .int (iI x2)] ((wdM cI cJ cZ qh B_h P_h N_h L_h E_h V_h G_h D_h O_h Z_h R_h I_h)) (rp_X7_doTouch cI cJ cZ qh B_h P_h N_h L_h E_h V_h G_h D_h O_h Z_h R_h I_h Q) := by
  refine KM_intro (lv := [(0, .ref (qh 0)), (1, .int (iI x1)), (2, .int (iI x2))]) false rfl (by decide) (Nat.le_of_ble_eq_true rfl) rfl (fun h => absurd h (by decide)) (fun v ws hq => by obtain ⟨r, rfl, rfl, hb, _⟩ := hq; exact Or.inr (Or.inr (Or.inl ⟨rfl, by rcases hb with rfl | rfl; exact Or.inl rfl; exact Or.inr rfl⟩))) (fun A K C => ?_)
  refine k_aload_n C dX7_doTouch_0 0 rfl rfl 1 rfl ?_
  refine k_iload_n C dX7_doTouch_1 1 rfl rfl 2 rfl ?_
  have hM := c_X7_isIn (l := l) (D := D) (cI := cI) (cJ := cJ) (cZ := cZ) qh B_h P_h N_h L_h E_h V_h G_h D_h O_h Z_h R_h I_h x1 _ h
  refine k_callV C dX7_doTouch_2 hM gX7_doTouch_X7_isIn rfl sg_X7_isIn 7 rfl rfl rfl (Nat.le_of_ble_eq_true rfl) ⟨⟨rfl, rfl⟩, by decide, by decide⟩ ⟨Nat.le_refl 0, Nat.le_refl 0⟩ [0, 1, 2, 3, 4, 5, 6, 7, 8, 9, 10, 11, 12, 13, 14, 15, 16] [] rfl rfl rfl rfl (by decide) 0 0 ⟨rfl, rfl⟩ 5 rfl (fun v w1 hq2 => ?_)
  obtain ⟨r2, rfl, rfl, hb2, h⟩ := hq2
  refine k_perm C [0, 1, 2, 3, 4, 5, 6, 7, 8, 9, 10, 11, 12, 13, 14, 15, 16] [.int (iI r2)] ((wdM cI cJ cZ qh B_h P_h N_h L_h E_h V_h G_h D_h O_h Z_h R_h I_h)) rfl rfl rfl ?_
  obtain ⟨ht, hf⟩ := h
  refine k_if_eq C dX7_doTouch_5 (by rcases hb2 with rfl | rfl <;> decide) 16 8 (by decide) rfl (fun hc5 => ?_) (fun hc5 => ?_)
  · have h := ht hc5; clear ht hf
    refine k_iconst C dX7_doTouch_16 17 rfl ?_
    exact k_iret C dX7_doTouch_17 ⟨0, rfl, rfl, (by decide), h⟩
  · have h := hf hc5; clear ht hf
    refine k_aload_n C dX7_doTouch_8 0 rfl rfl 9 rfl ?_
    refine k_iload_n C dX7_doTouch_9 2 rfl rfl 10 rfl ?_
    have hM := c_X7_isIn (l := l) (D := D) (cI := cI) (cJ := cJ) (cZ := cZ) qh B_h P_h N_h L_h E_h V_h G_h D_h O_h Z_h R_h I_h x2 _ h
    refine k_callV C dX7_doTouch_10 hM gX7_doTouch_X7_isIn rfl sg_X7_isIn 7 rfl rfl rfl (Nat.le_of_ble_eq_true rfl) ⟨⟨rfl, rfl⟩, by decide, by decide⟩ ⟨Nat.le_refl 0, Nat.le_refl 0⟩ [0, 1, 2, 3, 4, 5, 6, 7, 8, 9, 10, 11, 12, 13, 14, 15, 16] [] rfl rfl rfl rfl (by decide) 0 0 ⟨rfl, rfl⟩ 13 rfl (fun v w1 hq10 => ?_)
    obtain ⟨r10, rfl, rfl, hb10, h⟩ := hq10
    refine k_perm C [0, 1, 2, 3, 4, 5, 6, 7, 8, 9, 10, 11, 12, 13, 14, 15, 16] [.int (iI r10)] ((wdM cI cJ cZ qh B_h P_h N_h L_h E_h V_h G_h D_h O_h Z_h R_h I_h)) rfl rfl rfl ?_
    obtain ⟨ht, hf⟩ := h
    refine k_if_ne C dX7_doTouch_13 (by rcases hb10 with rfl | rfl <;> decide) 18 16 (by decide) rfl (fun hc13 => ?_) (fun hc13 => ?_)
    · have h := ht hc13; clear ht hf
      refine k_aload_n C dX7_doTouch_18 0 rfl rfl 19 rfl ?_
      refine k_get C dX7_doTouch_19 0 rfl (ci := 7) rfl hin_X7_doTouch_7 11 (by decide) (List.mem_of_getElem? (i := 1) rfl) rfl 22 rfl ?_
      refine k_iload_n C dX7_doTouch_22 1 rfl rfl 23 rfl ?_
      obtain ⟨hi23, h⟩ := h
      refine k_iaload C dX7_doTouch_23 8 0 rfl rfl (by decide) hi23 24 rfl ?_
      refine k_aload_n C dX7_doTouch_24 0 rfl rfl 25 rfl ?_
      refine k_get C dX7_doTouch_25 0 rfl (ci := 7) rfl hin_X7_doTouch_7 11 (by decide) (List.mem_of_getElem? (i := 1) rfl) rfl 28 rfl ?_
      refine k_iload_n C dX7_doTouch_28 2 rfl rfl 29 rfl ?_
      obtain ⟨hi29, h⟩ := h
      refine k_iaload C dX7_doTouch_29 8 0 rfl rfl (by decide) hi29 30 rfl ?_
      obtain ⟨hr30a, hr30b, h⟩ := h
      obtain ⟨ht, hf⟩ := h
      refine k_icmp_ne C dX7_doTouch_30 ⟨hr30a, hr30b⟩ 81 33 (by decide) rfl (fun hc30 => ?_) (fun hc30 => ?_)
      · have h := ht hc30; clear ht hf
        refine k_iconst C dX7_doTouch_81 82 rfl ?_
        refine w_X7_doTouch_82 C x1 x2 0 h
      · have h := hf hc30; clear ht hf
        refine k_aload_n C dX7_doTouch_33 0 rfl rfl 34 rfl ?_
        refine k_get C dX7_doTouch_34 0 rfl (ci := 7) rfl hin_X7_doTouch_7 12 (by decide) (List.mem_of_getElem? (i := 2) rfl) rfl 37 rfl ?_
        refine k_iload_n C dX7_doTouch_37 1 rfl rfl 38 rfl ?_
        refine k_iaload C dX7_doTouch_38 9 0 rfl rfl (by decide) hi23 39 rfl ?_
        refine k_aload_n C dX7_doTouch_39 0 rfl rfl 40 rfl ?_
        refine k_get C dX7_doTouch_40 0 rfl (ci := 7) rfl hin_X7_doTouch_7 2 (by decide) (List.mem_of_getElem? (i := 3) rfl) rfl 43 rfl ?_
        refine k_iload_n C dX7_doTouch_43 1 rfl rfl 44 rfl ?_
        refine k_iaload C dX7_doTouch_44 1 0 rfl rfl (by decide) hi23 45 rfl ?_
        refine k_iadd C dX7_doTouch_45 46 rfl ?_
        refine k_aload_n C dX7_doTouch_46 0 rfl rfl 47 rfl ?_
        refine k_get C dX7_doTouch_47 0 rfl (ci := 7) rfl hin_X7_doTouch_7 12 (by decide) (List.mem_of_getElem? (i := 2) rfl) rfl 50 rfl ?_
        refine k_iload_n C dX7_doTouch_50 2 rfl rfl 51 rfl ?_
        refine k_iaload C dX7_doTouch_51 9 0 rfl rfl (by decide) hi29 52 rfl ?_
        obtain ⟨hr52a, hr52b, h⟩ := h
        obtain ⟨ht, hf⟩ := h
        refine k_icmp_eq C dX7_doTouch_52 ⟨hr52a, hr52b⟩ 77 55 (by decide) rfl (fun hc52 => ?_) (fun hc52 => ?_)
        · have h := ht hc52; clear ht hf
          refine k_iconst C dX7_doTouch_77 78 rfl ?_
          refine k_goto C dX7_doTouch_78 82 (by decide) ?_
          refine w_X7_doTouch_82 C x1 x2 1 h
        · have h := hf hc52; clear ht hf
          refine k_aload_n C dX7_doTouch_55 0 rfl rfl 56 rfl ?_
          refine k_get C dX7_doTouch_56 0 rfl (ci := 7) rfl hin_X7_doTouch_7 12 (by decide) (List.mem_of_getElem? (i := 2) rfl) rfl 59 rfl ?_
          refine k_iload_n C dX7_doTouch_59 2 rfl rfl 60 rfl ?_
          refine k_iaload C dX7_doTouch_60 9 0 rfl rfl (by decide) hi29 61 rfl ?_
          refine k_aload_n C dX7_doTouch_61 0 rfl rfl 62 rfl ?_
          refine k_get C dX7_doTouch_62 0 rfl (ci := 7) rfl hin_X7_doTouch_7 2 (by decide) (List.mem_of_getElem? (i := 3) rfl) rfl 65 rfl ?_
          refine k_iload_n C dX7_doTouch_65 2 rfl rfl 66 rfl ?_
          refine k_iaload C dX7_doTouch_66 1 0 rfl rfl (by decide) hi29 67 rfl ?_
          refine k_iadd C dX7_doTouch_67 68 rfl ?_
          refine k_aload_n C dX7_doTouch_68 0 rfl rfl 69 rfl ?_
          refine k_get C dX7_doTouch_69 0 rfl (ci := 7) rfl hin_X7_doTouch_7 12 (by decide) (List.mem_of_getElem? (i := 2) rfl) rfl 72 rfl ?_
          refine k_iload_n C dX7_doTouch_72 1 rfl rfl 73 rfl ?_
          refine k_iaload C dX7_doTouch_73 9 0 rfl rfl (by decide) hi23 74 rfl ?_
          obtain ⟨hr74a, hr74b, h⟩ := h
          obtain ⟨ht, hf⟩ := h
          refine k_icmp_ne C dX7_doTouch_74 ⟨hr74a, hr74b⟩ 81 77 (by decide) rfl (fun hc74 => ?_) (fun hc74 => ?_)
          · have h := ht hc74; clear ht hf
            refine k_iconst C dX7_doTouch_81 82 rfl ?_
            refine w_X7_doTouch_82 C x1 x2 0 h
          · have h := hf hc74; clear ht hf
            refine k_iconst C dX7_doTouch_77 78 rfl ?_
            refine k_goto C dX7_doTouch_78 82 (by decide) ?_
            refine w_X7_doTouch_82 C x1 x2 1 h
    · have h := hf hc13; clear ht hf
      refine k_iconst C dX7_doTouch_16 17 rfl ?_
      exact k_iret C dX7_doTouch_17 ⟨0, rfl, rfl, (by decide), h⟩

/-! X7_touch -/
abbrev rm_X7_touch : Room := { frames := 2, cells := 0, slots := 0, locals := 45 }
theorem sg_X7_touch : yX7_touch.cls ≠ "java/lang/invoke/MethodHandle" ∧ yX7_touch.cls ≠ "java/lang/invoke/VarHandle" ∧ (parseMethodDescriptor yX7_touch.desc).map (fun d => d.parameters.length) = some 1 := by decide +kernel
def rp_X7_touch (cI cJ cZ : ClassId) (qh : Nat → Nat) (B_h : gMB) (P_h : gMP) (L_h : gML) (E_h : gME) (V_h : gMV) (G_h : gMG) (D_h : gMD) (O_h : gMO) (Z_h : gMZ) (R_h : gMR) (I_h : gMI) (Q : Int → gMN → Prop) : Option Value → va_W → Prop := fun v w1 => ∃ (r : Int) (N_h : gMN), v = some (.int (iI r)) ∧ w1 = (wdM cI cJ cZ qh B_h P_h N_h L_h E_h V_h G_h D_h O_h Z_h R_h I_h) ∧ Q r N_h
def wp_X7_touch_19 (B_h : gMB) (K_41 : Int → Int → gMN → Prop) (K_58 : Int → Int → Int → gMN → Prop)  (Q : Int → gMN → Prop) : Nat → Int → Int → Int → Int → gMN → Prop
  | 0, _, _, _, _, _ => False
  | n19 + 1, x1, x2, x3, x4, N_h =>
    rI x4 ∧ ((10 ≤ x4 → K_58 x1 x2 x3 N_h) ∧ (¬ (10 ≤ x4) → wp_X7_doTouch B_h N_h x3 x4 (fun (r30 : Int) => ((r30 = 0 → wp_X7_touch_19 B_h K_41 K_58 Q n19 x1 x2 x3 (x4 + 1) N_h) ∧ (¬ (r30 = 0) → rI x2 ∧ rI x1 ∧ ((¬ x2 = x1 → wp_X7_touch_19 B_h K_41 K_58 Q n19 x1 (x2 + 1) x3 (x4 + 1) N_h) ∧ (¬ (¬ x2 = x1) → K_41 x3 x4 N_h)))))))
def wp_X7_touch_8 (B_h : gMB) (K_41 : Int → Int → gMN → Prop) (K_64 : Int → Int → gMN → Prop)  (Q : Int → gMN → Prop) : Nat → Int → Int → Int → gMN → Prop
  | 0, _, _, _, _ => False
  | n8 + 1, x1, x2, x3, N_h =>
    rI x3 ∧ ((10 ≤ x3 → K_64 x1 x2 N_h) ∧ (¬ (10 ≤ x3) → ∃ m19, wp_X7_touch_19 B_h K_41 (fun (x1 : Int) (x2 : Int) (x3 : Int) (N_h : gMN) => wp_X7_touch_8 B_h K_41 K_64 Q n8 x1 x2 (x3 + 1) N_h) Q m19 x1 x2 x3 (x3 + 1) N_h))
def wp_X7_touch (B_h : gMB) (P_h : gMP) (N_h : gMN) (x1 : Int) (Q : Int → gMN → Prop) : Prop :=
    wp_X7_asNow P_h N_h (fun (N_h_1 : gMN) => ∃ m8, wp_X7_touch_8 B_h (fun (x3 : Int) (x4 : Int) (N_h : gMN) => Q ((10 * x3) + x4) N_h) (fun (x1 : Int) (x2 : Int) (N_h : gMN) => rI x1 ∧ ((¬ x1 = (-1) → Q (-6) N_h) ∧ (¬ (¬ x1 = (-1)) → Q x2 N_h))) Q m8 x1 0 0 N_h_1)
set_option maxHeartbeats 4000000 in
set_option maxRecDepth 20000 in
theorem w_X7_touch_19 {l : Launch} {D : va_G} {cI cJ cZ : ClassId} {A : Nat → Prop} {K : KT} {qh : Nat → Nat} {B_h : gMB} {P_h : gMP} {L_h : gML} {E_h : gME} {V_h : gMV} {G_h : gMG} {D_h : gMD} {O_h : gMO} {Z_h : gMZ} {R_h : gMR} {I_h : gMI} {Q : Int → gMN → Prop} {K_41 : Int → Int → gMN → Prop} {K_58 : Int → Int → Int → gMN → Prop} (C : KC cX7_touch yX7_touch.cls wsX7_touch rm_X7_touch 5 D (kT cI cJ cZ) A l false (rp_X7_touch cI cJ cZ qh B_h P_h L_h E_h V_h G_h D_h O_h Z_h R_h I_h Q) 0 0 K) : ∀ (n : Nat) (x1 : Int) (x2 : Int) (x3 : Int) (x4 : Int) (N_h : gMN), wp_X7_touch_19 B_h K_41 K_58 Q n x1 x2 x3 x4 N_h → (∀ (x3 : Int) (x4 : Int) (N_h : gMN), K_41 x3 x4 N_h → K 0 0 41 [(3, .int (iI x3)), (4, .int (iI x4))] [] ((wdM cI cJ cZ qh B_h P_h N_h L_h E_h V_h G_h D_h O_h Z_h R_h I_h))) → (∀ (x1 : Int) (x2 : Int) (x3 : Int) (N_h : gMN), K_58 x1 x2 x3 N_h → K 0 0 58 [(0, .ref (qh 0)), (1, .int (iI x1)), (2, .int (iI x2)), (3, .int (iI x3))] [] ((wdM cI cJ cZ qh B_h P_h N_h L_h E_h V_h G_h D_h O_h Z_h R_h I_h))) → K 0 0 19 [(0, .ref (qh 0)), (1, .int (iI x1)), (2, .int (iI x2)), (3, .int (iI x3)), (4, .int (iI x4))] [] ((wdM cI cJ cZ qh B_h P_h N_h L_h E_h V_h G_h D_h O_h Z_h R_h I_h)) := by
  intro n
  induction n with
  | zero => intro x1 x2 x3 x4 N_h h; exact h.elim
  | succ n ih =>
    intro x1 x2 x3 x4 N_h h hK_41 hK_58
    refine k_iload C dX7_touch_19 4 rfl 21 rfl ?_
    refine k_bipush C dX7_touch_21 (by decide) 23 rfl ?_
    obtain ⟨hr23a, h⟩ := h
    obtain ⟨ht, hf⟩ := h
    refine k_icmp_ge C dX7_touch_23 ⟨hr23a, (by decide)⟩ 58 26 (by decide) rfl (fun hc23 => ?_) (fun hc23 => ?_)
    · have h := ht hc23; clear ht hf
      refine k_lv C [0, 1, 2, 3] [(0, .ref (qh 0)), (1, .int (iI x1)), (2, .int (iI x2)), (3, .int (iI x3))] rfl ?_
      exact hK_58 x1 x2 x3 N_h h
    · have h := hf hc23; clear ht hf
      refine k_aload_n C dX7_touch_26 0 rfl rfl 27 rfl ?_
      refine k_iload_n C dX7_touch_27 3 rfl rfl 28 rfl ?_
      refine k_iload C dX7_touch_28 4 rfl 30 rfl ?_
      have hM := c_X7_doTouch (l := l) (D := D) (cI := cI) (cJ := cJ) (cZ := cZ) qh B_h P_h N_h L_h E_h V_h G_h D_h O_h Z_h R_h I_h x3 x4 _ h
      refine k_callV C dX7_touch_30 hM gX7_touch_X7_doTouch rfl sg_X7_doTouch 7 rfl rfl rfl (Nat.le_of_ble_eq_true rfl) ⟨⟨rfl, rfl⟩, by decide, by decide⟩ ⟨Nat.le_refl 0, Nat.le_refl 0⟩ [0, 1, 2, 3, 4, 5, 6, 7, 8, 9, 10, 11, 12, 13, 14, 15, 16] [] rfl rfl rfl rfl (by decide) 0 0 ⟨rfl, rfl⟩ 33 rfl (fun v w1 hq30 => ?_)
      obtain ⟨r30, rfl, rfl, hb30, h⟩ := hq30
      refine k_perm C [0, 1, 2, 3, 4, 5, 6, 7, 8, 9, 10, 11, 12, 13, 14, 15, 16] [.int (iI r30)] ((wdM cI cJ cZ qh B_h P_h N_h L_h E_h V_h G_h D_h O_h Z_h R_h I_h)) rfl rfl rfl ?_
      obtain ⟨ht, hf⟩ := h
      refine k_if_eq C dX7_touch_33 (by rcases hb30 with rfl | rfl <;> decide) 52 36 (by decide) rfl (fun hc33 => ?_) (fun hc33 => ?_)
      · have h := ht hc33; clear ht hf
        refine k_iinc (j := 4) C dX7_touch_52 rfl (by decide) [(4, .int (iI (x4 + 1))), (0, .ref (qh 0)), (1, .int (iI x1)), (2, .int (iI x2)), (3, .int (iI x3))] rfl 55 rfl ?_
        refine k_goto C dX7_touch_55 19 (by decide) ?_
        refine k_lv C [1, 2, 3, 4, 0] [(0, .ref (qh 0)), (1, .int (iI x1)), (2, .int (iI x2)), (3, .int (iI x3)), (4, .int (iI (x4 + 1)))] rfl ?_
        exact ih x1 x2 x3 (x4 + 1) N_h h hK_41 hK_58
      · have h := hf hc33; clear ht hf
        refine k_iload_n C dX7_touch_36 2 rfl rfl 37 rfl ?_
        refine k_iload_n C dX7_touch_37 1 rfl rfl 38 rfl ?_
        obtain ⟨hr38a, hr38b, h⟩ := h
        obtain ⟨ht, hf⟩ := h
        refine k_icmp_ne C dX7_touch_38 ⟨hr38a, hr38b⟩ 49 41 (by decide) rfl (fun hc38 => ?_) (fun hc38 => ?_)
        · have h := ht hc38; clear ht hf
          refine k_iinc (j := 2) C dX7_touch_49 rfl (by decide) [(2, .int (iI (x2 + 1))), (0, .ref (qh 0)), (1, .int (iI x1)), (3, .int (iI x3)), (4, .int (iI x4))] rfl 52 rfl ?_
          refine k_iinc (j := 4) C dX7_touch_52 rfl (by decide) [(4, .int (iI (x4 + 1))), (2, .int (iI (x2 + 1))), (0, .ref (qh 0)), (1, .int (iI x1)), (3, .int (iI x3))] rfl 55 rfl ?_
          refine k_goto C dX7_touch_55 19 (by decide) ?_
          refine k_lv C [2, 3, 1, 4, 0] [(0, .ref (qh 0)), (1, .int (iI x1)), (2, .int (iI (x2 + 1))), (3, .int (iI x3)), (4, .int (iI (x4 + 1)))] rfl ?_
          exact ih x1 (x2 + 1) x3 (x4 + 1) N_h h hK_41 hK_58
        · have h := hf hc38; clear ht hf
          refine k_lv C [3, 4] [(3, .int (iI x3)), (4, .int (iI x4))] rfl ?_
          exact hK_41 x3 x4 N_h h
set_option maxHeartbeats 4000000 in
set_option maxRecDepth 20000 in
theorem w_X7_touch_8 {l : Launch} {D : va_G} {cI cJ cZ : ClassId} {A : Nat → Prop} {K : KT} {qh : Nat → Nat} {B_h : gMB} {P_h : gMP} {L_h : gML} {E_h : gME} {V_h : gMV} {G_h : gMG} {D_h : gMD} {O_h : gMO} {Z_h : gMZ} {R_h : gMR} {I_h : gMI} {Q : Int → gMN → Prop} {K_41 : Int → Int → gMN → Prop} {K_64 : Int → Int → gMN → Prop} (C : KC cX7_touch yX7_touch.cls wsX7_touch rm_X7_touch 5 D (kT cI cJ cZ) A l false (rp_X7_touch cI cJ cZ qh B_h P_h L_h E_h V_h G_h D_h O_h Z_h R_h I_h Q) 0 0 K) : ∀ (n : Nat) (x1 : Int) (x2 : Int) (x3 : Int) (N_h : gMN), wp_X7_touch_8 B_h K_41 K_64 Q n x1 x2 x3 N_h → (∀ (x3 : Int) (x4 : Int) (N_h : gMN), K_41 x3 x4 N_h → K 0 0 41 [(3, .int (iI x3)), (4, .int (iI x4))] [] ((wdM cI cJ cZ qh B_h P_h N_h L_h E_h V_h G_h D_h O_h Z_h R_h I_h))) → (∀ (x1 : Int) (x2 : Int) (N_h : gMN), K_64 x1 x2 N_h → K 0 0 64 [(1, .int (iI x1)), (2, .int (iI x2))] [] ((wdM cI cJ cZ qh B_h P_h N_h L_h E_h V_h G_h D_h O_h Z_h R_h I_h))) → K 0 0 8 [(0, .ref (qh 0)), (1, .int (iI x1)), (2, .int (iI x2)), (3, .int (iI x3))] [] ((wdM cI cJ cZ qh B_h P_h N_h L_h E_h V_h G_h D_h O_h Z_h R_h I_h)) := by
  intro n
  induction n with
  | zero => intro x1 x2 x3 N_h h; exact h.elim
  | succ n ih =>
    intro x1 x2 x3 N_h h hK_41 hK_64
    refine k_iload_n C dX7_touch_8 3 rfl rfl 9 rfl ?_
    refine k_bipush C dX7_touch_9 (by decide) 11 rfl ?_
    obtain ⟨hr11a, h⟩ := h
    obtain ⟨ht, hf⟩ := h
    refine k_icmp_ge C dX7_touch_11 ⟨hr11a, (by decide)⟩ 64 14 (by decide) rfl (fun hc11 => ?_) (fun hc11 => ?_)
    · have h := ht hc11; clear ht hf
      refine k_lv C [1, 2] [(1, .int (iI x1)), (2, .int (iI x2))] rfl ?_
      exact hK_64 x1 x2 N_h h
    · have h := hf hc11; clear ht hf
      refine k_iload_n C dX7_touch_14 3 rfl rfl 15 rfl ?_
      refine k_iconst C dX7_touch_15 16 rfl ?_
      refine k_iadd C dX7_touch_16 17 rfl ?_
      refine k_istore C dX7_touch_17 (by decide) [(4, .int (iI (x3 + 1))), (0, .ref (qh 0)), (1, .int (iI x1)), (2, .int (iI x2)), (3, .int (iI x3))] rfl 19 rfl ?_
      refine k_lv C [1, 2, 3, 4, 0] [(0, .ref (qh 0)), (1, .int (iI x1)), (2, .int (iI x2)), (3, .int (iI x3)), (4, .int (iI (x3 + 1)))] rfl ?_
      obtain ⟨m19, h⟩ := h
      refine w_X7_touch_19 C m19 x1 x2 x3 (x3 + 1) N_h h hK_41 (fun x1 x2 x3 N_h h => ?_)
      · refine k_iinc (j := 3) C dX7_touch_58 rfl (by decide) [(3, .int (iI (x3 + 1))), (0, .ref (qh 0)), (1, .int (iI x1)), (2, .int (iI x2))] rfl 61 rfl ?_
        refine k_goto C dX7_touch_61 8 (by decide) ?_
        refine k_lv C [1, 2, 3, 0] [(0, .ref (qh 0)), (1, .int (iI x1)), (2, .int (iI x2)), (3, .int (iI (x3 + 1)))] rfl ?_
        exact ih x1 x2 (x3 + 1) N_h h hK_41 hK_64
set_option maxHeartbeats 4000000 in
set_option maxRecDepth 20000 in
theorem c_X7_touch {l : Launch} {D : va_G} {cI cJ cZ : ClassId} (qh : Nat → Nat) (B_h : gMB) (P_h : gMP) (N_h : gMN) (L_h : gML) (E_h : gME) (V_h : gMV) (G_h : gMG) (D_h : gMD) (O_h : gMO) (Z_h : gMZ) (R_h : gMR) (I_h : gMI) (x1 : Int) (Q : Int → gMN → Prop) (h : wp_X7_touch B_h P_h N_h x1 Q) : KM l D (kT cI cJ cZ) 0 0 yX7_touch wsX7_touch rm_X7_touch [.ref (qh 0), .int (iI x1)] ((wdM cI cJ cZ qh B_h P_h N_h L_h E_h V_h G_h D_h O_h Z_h R_h I_h)) (rp_X7_touch cI cJ cZ qh B_h P_h L_h E_h V_h G_h D_h O_h Z_h R_h I_h Q) := by
  refine KM_intro (lv := [(0, .ref (qh 0)), (1, .int (iI x1))]) false rfl (by decide) (Nat.le_of_ble_eq_true rfl) rfl (fun h => absurd h (by decide)) (fun v ws hq => by obtain ⟨r, N_h, rfl, rfl, _⟩ := hq; exact Or.inr (Or.inl ⟨rfl, _, rfl⟩)) (fun A K C => ?_)
  refine k_aload_n C dX7_touch_0 0 rfl rfl 1 rfl ?_
  have hM := c_X7_asNow (l := l) (D := D) (cI := cI) (cJ := cJ) (cZ := cZ) qh B_h P_h N_h L_h E_h V_h G_h D_h O_h Z_h R_h I_h _ h
  refine k_callV C dX7_touch_1 hM gX7_touch_X7_asNow rfl sg_X7_asNow 7 rfl rfl rfl (Nat.le_of_ble_eq_true rfl) ⟨⟨rfl, rfl⟩, by decide, by decide⟩ ⟨Nat.le_refl 0, Nat.le_refl 0⟩ [0, 1, 2, 3, 4, 5, 6, 7, 8, 9, 10, 11, 12, 13, 14, 15, 16] [] rfl rfl rfl rfl (by decide) 0 0 ⟨rfl, rfl⟩ 4 rfl (fun v w1 hq1 => ?_)
  obtain ⟨N_h_1, rfl, rfl, h⟩ := hq1
  refine k_perm C [0, 1, 2, 3, 4, 5, 6, 7, 8, 9, 10, 11, 12, 13, 14, 15, 16] [] ((wdM cI cJ cZ qh B_h P_h N_h_1 L_h E_h V_h G_h D_h O_h Z_h R_h I_h)) rfl rfl rfl ?_
  refine k_iconst C dX7_touch_4 5 rfl ?_
  refine k_istore_n C dX7_touch_5 rfl (by decide) [(2, .int (iI 0)), (0, .ref (qh 0)), (1, .int (iI x1))] rfl 6 rfl ?_
  refine k_iconst C dX7_touch_6 7 rfl ?_
  refine k_istore_n C dX7_touch_7 rfl (by decide) [(3, .int (iI 0)), (2, .int (iI 0)), (0, .ref (qh 0)), (1, .int (iI x1))] rfl 8 rfl ?_
  refine k_lv C [2, 3, 1, 0] [(0, .ref (qh 0)), (1, .int (iI x1)), (2, .int (iI 0)), (3, .int (iI 0))] rfl ?_
  obtain ⟨m8, h⟩ := h
  refine w_X7_touch_8 C m8 x1 0 0 N_h_1 h (fun x3 x4 N_h h => ?_) (fun x1 x2 N_h h => ?_)
  · refine k_bipush C dX7_touch_41 (by decide) 43 rfl ?_
    refine k_iload_n C dX7_touch_43 0 rfl rfl 44 rfl ?_
    refine k_imul C dX7_touch_44 45 rfl ?_
    refine k_iload C dX7_touch_45 1 rfl 47 rfl ?_
    refine k_iadd C dX7_touch_47 48 rfl ?_
    exact k_iret C dX7_touch_48 ⟨(10 * x3) + x4, N_h, rfl, rfl, h⟩
  · refine k_iload_n C dX7_touch_64 0 rfl rfl 65 rfl ?_
    refine k_iconst C dX7_touch_65 66 rfl ?_
    obtain ⟨hr66a, h⟩ := h
    obtain ⟨ht, hf⟩ := h
    refine k_icmp_ne C dX7_touch_66 ⟨hr66a, (by decide)⟩ 73 69 (by decide) rfl (fun hc66 => ?_) (fun hc66 => ?_)
    · have h := ht hc66; clear ht hf
      refine k_bipush C dX7_touch_73 (by decide) 75 rfl ?_
      exact k_iret C dX7_touch_75 ⟨(-6), N_h, rfl, rfl, h⟩
    · have h := hf hc66; clear ht hf
      refine k_iload_n C dX7_touch_69 1 rfl rfl 70 rfl ?_
      refine k_goto C dX7_touch_70 75 (by decide) ?_
      exact k_iret C dX7_touch_75 ⟨x2, N_h, rfl, rfl, h⟩

/-! X7_gaps -/
abbrev rm_X7_gaps : Room := { frames := 3, cells := 0, slots := 0, locals := 67 }
theorem sg_X7_gaps : yX7_gaps.cls ≠ "java/lang/invoke/MethodHandle" ∧ yX7_gaps.cls ≠ "java/lang/invoke/VarHandle" ∧ (parseMethodDescriptor yX7_gaps.desc).map (fun d => d.parameters.length) = some 1 := by decide +kernel
theorem hin_X7_gaps_7 : ∀ w ∈ wsX70, w ∈ wsX7_gaps := fun _ h => List.mem_cons_of_mem _ (List.mem_append_right _ h)
def rp_X7_gaps (cI cJ cZ : ClassId) (qh : Nat → Nat) (B_h : gMB) (P_h : gMP) (L_h : gML) (E_h : gME) (V_h : gMV) (G_h : gMG) (D_h : gMD) (O_h : gMO) (Z_h : gMZ) (R_h : gMR) (I_h : gMI) (Q : Int → gMN → Prop) : Option Value → va_W → Prop := fun v w1 => ∃ (r : Int) (N_h : gMN), v = some (.int (iI r)) ∧ w1 = (wdM cI cJ cZ qh B_h P_h N_h L_h E_h V_h G_h D_h O_h Z_h R_h I_h) ∧ Q r N_h
def wp_X7_gaps_55 (B_h : gMB) (K_35 : Int → Int → Int → Int → gMN → Prop)  (Q : Int → gMN → Prop) (x1 : Int) (x3 : Int) (x4 : Int) (s0 : Int) (N_h : gMN) : Prop :=
    wp_X7_whose B_h N_h x4 x3 (fun (r59 : Int) => rI r59 ∧ ((0 ≤ r59 → K_35 x1 (s0 + 0) x3 (x4 + 1) N_h) ∧ (¬ (0 ≤ r59) → K_35 x1 (s0 + 1) x3 (x4 + 1) N_h)))
def wp_X7_gaps_35 (B_h : gMB) (K_78 : Int → Int → Int → gMN → Prop)  (Q : Int → gMN → Prop) : Nat → Int → Int → Int → Int → gMN → Prop
  | 0, _, _, _, _, _ => False
  | n35 + 1, x1, x2, x3, x4, N_h =>
    wp_X7_heightOf B_h N_h x3 (fun (r39 : Int) => rI x4 ∧ rI r39 ∧ ((r39 ≤ x4 → K_78 x1 x2 x3 N_h) ∧ (¬ (r39 ≤ x4) → rI x1 ∧ ((x1 < 0 → wp_X7_gaps_55 B_h (fun (x1 : Int) (x2 : Int) (x3 : Int) (x4 : Int) (N_h : gMN) => wp_X7_gaps_35 B_h K_78 Q n35 x1 x2 x3 x4 N_h) Q x1 x3 x4 x2 N_h) ∧ (¬ (x1 < 0) → rI x3 ∧ ((¬ x3 = x1 → wp_X7_gaps_35 B_h K_78 Q n35 x1 (x2 + 0) x3 (x4 + 1) N_h) ∧ (¬ (¬ x3 = x1) → wp_X7_gaps_55 B_h (fun (x1 : Int) (x2 : Int) (x3 : Int) (x4 : Int) (N_h : gMN) => wp_X7_gaps_35 B_h K_78 Q n35 x1 x2 x3 x4 N_h) Q x1 x3 x4 x2 N_h)))))))
def wp_X7_gaps_24 (B_h : gMB) (K_84 : Int → gMN → Prop)  (Q : Int → gMN → Prop) : Nat → Int → Int → Int → gMN → Prop
  | 0, _, _, _, _ => False
  | n24 + 1, x1, x2, x3, N_h =>
    rI x3 ∧ rI B_h.1 ∧ ((B_h.1 ≤ x3 → K_84 x2 N_h) ∧ (¬ (B_h.1 ≤ x3) → ∃ m35, wp_X7_gaps_35 B_h (fun (x1 : Int) (x2 : Int) (x3 : Int) (N_h : gMN) => wp_X7_gaps_24 B_h K_84 Q n24 x1 x2 (x3 + 1) N_h) Q m35 x1 x2 x3 0 N_h))
def wp_X7_gaps (B_h : gMB) (P_h : gMP) (N_h : gMN) (x1 : Int) (Q : Int → gMN → Prop) : Prop :=
    wp_X7_in x1 (-1) (B_h.1 - 1) (fun (r8 : Int) => ((¬ r8 = 0 → wp_X7_asNow P_h N_h (fun (N_h_17 : gMN) => ∃ m24, wp_X7_gaps_24 B_h (fun (x2 : Int) (N_h : gMN) => Q x2 N_h) Q m24 x1 0 0 N_h_17)) ∧ (¬ (¬ r8 = 0) → Q (-1) N_h)))
set_option maxHeartbeats 4000000 in
set_option maxRecDepth 20000 in
theorem w_X7_gaps_55 {l : Launch} {D : va_G} {cI cJ cZ : ClassId} {A : Nat → Prop} {K : KT} {qh : Nat → Nat} {B_h : gMB} {P_h : gMP} {L_h : gML} {E_h : gME} {V_h : gMV} {G_h : gMG} {D_h : gMD} {O_h : gMO} {Z_h : gMZ} {R_h : gMR} {I_h : gMI} {Q : Int → gMN → Prop} {K_35 : Int → Int → Int → Int → gMN → Prop} (C : KC cX7_gaps yX7_gaps.cls wsX7_gaps rm_X7_gaps 5 D (kT cI cJ cZ) A l false (rp_X7_gaps cI cJ cZ qh B_h P_h L_h E_h V_h G_h D_h O_h Z_h R_h I_h Q) 0 0 K) : ∀ (x1 : Int) (x3 : Int) (x4 : Int) (s0 : Int) (N_h : gMN), wp_X7_gaps_55 B_h K_35 Q x1 x3 x4 s0 N_h → (∀ (x1 : Int) (x2 : Int) (x3 : Int) (x4 : Int) (N_h : gMN), K_35 x1 x2 x3 x4 N_h → K 0 0 35 [(0, .ref (qh 0)), (1, .int (iI x1)), (2, .int (iI x2)), (3, .int (iI x3)), (4, .int (iI x4))] [] ((wdM cI cJ cZ qh B_h P_h N_h L_h E_h V_h G_h D_h O_h Z_h R_h I_h))) → K 0 0 55 [(0, .ref (qh 0)), (1, .int (iI x1)), (3, .int (iI x3)), (4, .int (iI x4))] [.int (iI s0)] ((wdM cI cJ cZ qh B_h P_h N_h L_h E_h V_h G_h D_h O_h Z_h R_h I_h)) := by
  intro x1 x3 x4 s0 N_h h hK_35
  refine k_aload_n C dX7_gaps_55 0 rfl rfl 56 rfl ?_
  refine k_iload C dX7_gaps_56 3 rfl 58 rfl ?_
  refine k_iload_n C dX7_gaps_58 2 rfl rfl 59 rfl ?_
  have hM := c_X7_whose (l := l) (D := D) (cI := cI) (cJ := cJ) (cZ := cZ) qh B_h P_h N_h L_h E_h V_h G_h D_h O_h Z_h R_h I_h x4 x3 _ h
  refine k_callV C dX7_gaps_59 hM gX7_gaps_X7_whose rfl sg_X7_whose 7 rfl rfl rfl (Nat.le_of_ble_eq_true rfl) ⟨⟨rfl, rfl⟩, by decide, by decide⟩ ⟨Nat.le_refl 0, Nat.le_refl 0⟩ [0, 1, 2, 3, 4, 5, 6, 7, 8, 9, 10, 11, 12, 13, 14, 15, 16] [] rfl rfl rfl rfl (by decide) 0 0 ⟨rfl, rfl⟩ 62 rfl (fun v w1 hq59 => ?_)
  obtain ⟨r59, rfl, rfl, h⟩ := hq59
  refine k_perm C [0, 1, 2, 3, 4, 5, 6, 7, 8, 9, 10, 11, 12, 13, 14, 15, 16] [.int (iI r59), .int (iI s0)] ((wdM cI cJ cZ qh B_h P_h N_h L_h E_h V_h G_h D_h O_h Z_h R_h I_h)) rfl rfl rfl ?_
  obtain ⟨hr62a, h⟩ := h
  obtain ⟨ht, hf⟩ := h
  refine k_if_ge C dX7_gaps_62 hr62a 69 65 (by decide) rfl (fun hc62 => ?_) (fun hc62 => ?_)
  · have h := ht hc62; clear ht hf
    refine k_iconst C dX7_gaps_69 70 rfl ?_
    refine k_iadd C dX7_gaps_70 71 rfl ?_
    refine k_istore_n C dX7_gaps_71 rfl (by decide) [(2, .int (iI (s0 + 0))), (0, .ref (qh 0)), (1, .int (iI x1)), (3, .int (iI x3)), (4, .int (iI x4))] rfl 72 rfl ?_
    refine k_iinc (j := 4) C dX7_gaps_72 rfl (by decide) [(4, .int (iI (x4 + 1))), (2, .int (iI (s0 + 0))), (0, .ref (qh 0)), (1, .int (iI x1)), (3, .int (iI x3))] rfl 75 rfl ?_
    refine k_goto C dX7_gaps_75 35 (by decide) ?_
    refine k_lv C [2, 3, 1, 4, 0] [(0, .ref (qh 0)), (1, .int (iI x1)), (2, .int (iI (s0 + 0))), (3, .int (iI x3)), (4, .int (iI (x4 + 1)))] rfl ?_
    exact hK_35 x1 (s0 + 0) x3 (x4 + 1) N_h h
  · have h := hf hc62; clear ht hf
    refine k_iconst C dX7_gaps_65 66 rfl ?_
    refine k_goto C dX7_gaps_66 70 (by decide) ?_
    refine k_iadd C dX7_gaps_70 71 rfl ?_
    refine k_istore_n C dX7_gaps_71 rfl (by decide) [(2, .int (iI (s0 + 1))), (0, .ref (qh 0)), (1, .int (iI x1)), (3, .int (iI x3)), (4, .int (iI x4))] rfl 72 rfl ?_
    refine k_iinc (j := 4) C dX7_gaps_72 rfl (by decide) [(4, .int (iI (x4 + 1))), (2, .int (iI (s0 + 1))), (0, .ref (qh 0)), (1, .int (iI x1)), (3, .int (iI x3))] rfl 75 rfl ?_
    refine k_goto C dX7_gaps_75 35 (by decide) ?_
    refine k_lv C [2, 3, 1, 4, 0] [(0, .ref (qh 0)), (1, .int (iI x1)), (2, .int (iI (s0 + 1))), (3, .int (iI x3)), (4, .int (iI (x4 + 1)))] rfl ?_
    exact hK_35 x1 (s0 + 1) x3 (x4 + 1) N_h h
set_option maxHeartbeats 4000000 in
set_option maxRecDepth 20000 in
theorem w_X7_gaps_35 {l : Launch} {D : va_G} {cI cJ cZ : ClassId} {A : Nat → Prop} {K : KT} {qh : Nat → Nat} {B_h : gMB} {P_h : gMP} {L_h : gML} {E_h : gME} {V_h : gMV} {G_h : gMG} {D_h : gMD} {O_h : gMO} {Z_h : gMZ} {R_h : gMR} {I_h : gMI} {Q : Int → gMN → Prop} {K_78 : Int → Int → Int → gMN → Prop} (C : KC cX7_gaps yX7_gaps.cls wsX7_gaps rm_X7_gaps 5 D (kT cI cJ cZ) A l false (rp_X7_gaps cI cJ cZ qh B_h P_h L_h E_h V_h G_h D_h O_h Z_h R_h I_h Q) 0 0 K) : ∀ (n : Nat) (x1 : Int) (x2 : Int) (x3 : Int) (x4 : Int) (N_h : gMN), wp_X7_gaps_35 B_h K_78 Q n x1 x2 x3 x4 N_h → (∀ (x1 : Int) (x2 : Int) (x3 : Int) (N_h : gMN), K_78 x1 x2 x3 N_h → K 0 0 78 [(0, .ref (qh 0)), (1, .int (iI x1)), (2, .int (iI x2)), (3, .int (iI x3))] [] ((wdM cI cJ cZ qh B_h P_h N_h L_h E_h V_h G_h D_h O_h Z_h R_h I_h))) → K 0 0 35 [(0, .ref (qh 0)), (1, .int (iI x1)), (2, .int (iI x2)), (3, .int (iI x3)), (4, .int (iI x4))] [] ((wdM cI cJ cZ qh B_h P_h N_h L_h E_h V_h G_h D_h O_h Z_h R_h I_h)) := by
  intro n
  induction n with
  | zero => intro x1 x2 x3 x4 N_h h; exact h.elim
  | succ n ih =>
    intro x1 x2 x3 x4 N_h h hK_78
    refine k_iload C dX7_gaps_35 4 rfl 37 rfl ?_
    refine k_aload_n C dX7_gaps_37 0 rfl rfl 38 rfl ?_
    refine k_iload_n C dX7_gaps_38 3 rfl rfl 39 rfl ?_
    have hM := c_X7_heightOf (l := l) (D := D) (cI := cI) (cJ := cJ) (cZ := cZ) qh B_h P_h N_h L_h E_h V_h G_h D_h O_h Z_h R_h I_h x3 _ h
    refine k_callV C dX7_gaps_39 hM gX7_gaps_X7_heightOf rfl sg_X7_heightOf 7 rfl rfl rfl (Nat.le_of_ble_eq_true rfl) ⟨⟨rfl, rfl⟩, by decide, by decide⟩ ⟨Nat.le_refl 0, Nat.le_refl 0⟩ [0, 1, 2, 3, 4, 5, 6, 7, 8, 9, 10, 11, 12, 13, 14, 15, 16] [] rfl rfl rfl rfl (by decide) 0 0 ⟨rfl, rfl⟩ 42 rfl (fun v w1 hq39 => ?_)
    obtain ⟨r39, rfl, rfl, h⟩ := hq39
    refine k_perm C [0, 1, 2, 3, 4, 5, 6, 7, 8, 9, 10, 11, 12, 13, 14, 15, 16] [.int (iI r39), .int (iI x4)] ((wdM cI cJ cZ qh B_h P_h N_h L_h E_h V_h G_h D_h O_h Z_h R_h I_h)) rfl rfl rfl ?_
    obtain ⟨hr42a, hr42b, h⟩ := h
    obtain ⟨ht, hf⟩ := h
    refine k_icmp_ge C dX7_gaps_42 ⟨hr42a, hr42b⟩ 78 45 (by decide) rfl (fun hc42 => ?_) (fun hc42 => ?_)
    · have h := ht hc42; clear ht hf
      refine k_lv C [0, 1, 2, 3] [(0, .ref (qh 0)), (1, .int (iI x1)), (2, .int (iI x2)), (3, .int (iI x3))] rfl ?_
      exact hK_78 x1 x2 x3 N_h h
    · have h := hf hc42; clear ht hf
      refine k_iload_n C dX7_gaps_45 2 rfl rfl 46 rfl ?_
      refine k_iload_n C dX7_gaps_46 1 rfl rfl 47 rfl ?_
      obtain ⟨hr47a, h⟩ := h
      obtain ⟨ht, hf⟩ := h
      refine k_if_lt C dX7_gaps_47 hr47a 55 50 (by decide) rfl (fun hc47 => ?_) (fun hc47 => ?_)
      · have h := ht hc47; clear ht hf
        refine k_lv C [0, 1, 3, 4] [(0, .ref (qh 0)), (1, .int (iI x1)), (3, .int (iI x3)), (4, .int (iI x4))] rfl ?_
        refine w_X7_gaps_55 C x1 x3 x4 x2 N_h h (fun x1 x2 x3 x4 N_h h => ?_)
        · exact ih x1 x2 x3 x4 N_h h hK_78
      · have h := hf hc47; clear ht hf
        refine k_iload_n C dX7_gaps_50 3 rfl rfl 51 rfl ?_
        refine k_iload_n C dX7_gaps_51 1 rfl rfl 52 rfl ?_
        obtain ⟨hr52a, h⟩ := h
        obtain ⟨ht, hf⟩ := h
        refine k_icmp_ne C dX7_gaps_52 ⟨hr52a, hr47a⟩ 69 55 (by decide) rfl (fun hc52 => ?_) (fun hc52 => ?_)
        · have h := ht hc52; clear ht hf
          refine k_iconst C dX7_gaps_69 70 rfl ?_
          refine k_iadd C dX7_gaps_70 71 rfl ?_
          refine k_istore_n C dX7_gaps_71 rfl (by decide) [(2, .int (iI (x2 + 0))), (0, .ref (qh 0)), (1, .int (iI x1)), (3, .int (iI x3)), (4, .int (iI x4))] rfl 72 rfl ?_
          refine k_iinc (j := 4) C dX7_gaps_72 rfl (by decide) [(4, .int (iI (x4 + 1))), (2, .int (iI (x2 + 0))), (0, .ref (qh 0)), (1, .int (iI x1)), (3, .int (iI x3))] rfl 75 rfl ?_
          refine k_goto C dX7_gaps_75 35 (by decide) ?_
          refine k_lv C [2, 3, 1, 4, 0] [(0, .ref (qh 0)), (1, .int (iI x1)), (2, .int (iI (x2 + 0))), (3, .int (iI x3)), (4, .int (iI (x4 + 1)))] rfl ?_
          exact ih x1 (x2 + 0) x3 (x4 + 1) N_h h hK_78
        · have h := hf hc52; clear ht hf
          refine k_lv C [0, 1, 3, 4] [(0, .ref (qh 0)), (1, .int (iI x1)), (3, .int (iI x3)), (4, .int (iI x4))] rfl ?_
          refine w_X7_gaps_55 C x1 x3 x4 x2 N_h h (fun x1 x2 x3 x4 N_h h => ?_)
          · exact ih x1 x2 x3 x4 N_h h hK_78
set_option maxHeartbeats 4000000 in
set_option maxRecDepth 20000 in
theorem w_X7_gaps_24 {l : Launch} {D : va_G} {cI cJ cZ : ClassId} {A : Nat → Prop} {K : KT} {qh : Nat → Nat} {B_h : gMB} {P_h : gMP} {L_h : gML} {E_h : gME} {V_h : gMV} {G_h : gMG} {D_h : gMD} {O_h : gMO} {Z_h : gMZ} {R_h : gMR} {I_h : gMI} {Q : Int → gMN → Prop} {K_84 : Int → gMN → Prop} (C : KC cX7_gaps yX7_gaps.cls wsX7_gaps rm_X7_gaps 5 D (kT cI cJ cZ) A l false (rp_X7_gaps cI cJ cZ qh B_h P_h L_h E_h V_h G_h D_h O_h Z_h R_h I_h Q) 0 0 K) : ∀ (n : Nat) (x1 : Int) (x2 : Int) (x3 : Int) (N_h : gMN), wp_X7_gaps_24 B_h K_84 Q n x1 x2 x3 N_h → (∀ (x2 : Int) (N_h : gMN), K_84 x2 N_h → K 0 0 84 [(2, .int (iI x2))] [] ((wdM cI cJ cZ qh B_h P_h N_h L_h E_h V_h G_h D_h O_h Z_h R_h I_h))) → K 0 0 24 [(0, .ref (qh 0)), (1, .int (iI x1)), (2, .int (iI x2)), (3, .int (iI x3))] [] ((wdM cI cJ cZ qh B_h P_h N_h L_h E_h V_h G_h D_h O_h Z_h R_h I_h)) := by
  intro n
  induction n with
  | zero => intro x1 x2 x3 N_h h; exact h.elim
  | succ n ih =>
    intro x1 x2 x3 N_h h hK_84
    refine k_iload_n C dX7_gaps_24 3 rfl rfl 25 rfl ?_
    refine k_aload_n C dX7_gaps_25 0 rfl rfl 26 rfl ?_
    refine k_get C dX7_gaps_26 0 rfl (ci := 7) rfl hin_X7_gaps_7 0 (by decide) (List.mem_of_getElem? (i := 1) rfl) rfl 29 rfl ?_
    obtain ⟨hr29a, hr29b, h⟩ := h
    obtain ⟨ht, hf⟩ := h
    refine k_icmp_ge C dX7_gaps_29 ⟨hr29a, hr29b⟩ 84 32 (by decide) rfl (fun hc29 => ?_) (fun hc29 => ?_)
    · have h := ht hc29; clear ht hf
      refine k_lv C [2] [(2, .int (iI x2))] rfl ?_
      exact hK_84 x2 N_h h
    · have h := hf hc29; clear ht hf
      refine k_iconst C dX7_gaps_32 33 rfl ?_
      refine k_istore C dX7_gaps_33 (by decide) [(4, .int (iI 0)), (0, .ref (qh 0)), (1, .int (iI x1)), (2, .int (iI x2)), (3, .int (iI x3))] rfl 35 rfl ?_
      refine k_lv C [1, 2, 3, 4, 0] [(0, .ref (qh 0)), (1, .int (iI x1)), (2, .int (iI x2)), (3, .int (iI x3)), (4, .int (iI 0))] rfl ?_
      obtain ⟨m35, h⟩ := h
      refine w_X7_gaps_35 C m35 x1 x2 x3 0 N_h h (fun x1 x2 x3 N_h h => ?_)
      · refine k_iinc (j := 3) C dX7_gaps_78 rfl (by decide) [(3, .int (iI (x3 + 1))), (0, .ref (qh 0)), (1, .int (iI x1)), (2, .int (iI x2))] rfl 81 rfl ?_
        refine k_goto C dX7_gaps_81 24 (by decide) ?_
        refine k_lv C [1, 2, 3, 0] [(0, .ref (qh 0)), (1, .int (iI x1)), (2, .int (iI x2)), (3, .int (iI (x3 + 1)))] rfl ?_
        exact ih x1 x2 (x3 + 1) N_h h hK_84
set_option maxHeartbeats 4000000 in
set_option maxRecDepth 20000 in
theorem c_X7_gaps {l : Launch} {D : va_G} {cI cJ cZ : ClassId} (qh : Nat → Nat) (B_h : gMB) (P_h : gMP) (N_h : gMN) (L_h : gML) (E_h : gME) (V_h : gMV) (G_h : gMG) (D_h : gMD) (O_h : gMO) (Z_h : gMZ) (R_h : gMR) (I_h : gMI) (x1 : Int) (Q : Int → gMN → Prop) (h : wp_X7_gaps B_h P_h N_h x1 Q) : KM l D (kT cI cJ cZ) 0 0 yX7_gaps wsX7_gaps rm_X7_gaps [.ref (qh 0), .int (iI x1)] ((wdM cI cJ cZ qh B_h P_h N_h L_h E_h V_h G_h D_h O_h Z_h R_h I_h)) (rp_X7_gaps cI cJ cZ qh B_h P_h L_h E_h V_h G_h D_h O_h Z_h R_h I_h Q) := by
  refine KM_intro (lv := [(0, .ref (qh 0)), (1, .int (iI x1))]) false rfl (by decide) (Nat.le_of_ble_eq_true rfl) rfl (fun h => absurd h (by decide)) (fun v ws hq => by obtain ⟨r, N_h, rfl, rfl, _⟩ := hq; exact Or.inr (Or.inl ⟨rfl, _, rfl⟩)) (fun A K C => ?_)
  refine k_iload_n C dX7_gaps_0 1 rfl rfl 1 rfl ?_
  refine k_iconst C dX7_gaps_1 2 rfl ?_
  refine k_aload_n C dX7_gaps_2 0 rfl rfl 3 rfl ?_
  refine k_get C dX7_gaps_3 0 rfl (ci := 7) rfl hin_X7_gaps_7 0 (by decide) (List.mem_of_getElem? (i := 1) rfl) rfl 6 rfl ?_
  refine k_iconst C dX7_gaps_6 7 rfl ?_
  refine k_isub C dX7_gaps_7 8 rfl ?_
  have hM := c_X7_in (l := l) (D := D) (cI := cI) (cJ := cJ) (cZ := cZ) x1 (-1) (B_h.1 - 1) _ h
  refine k_callS C dX7_gaps_8 hM gX7_gaps_X7_in rfl sg_X7_in rfl (Nat.le_of_ble_eq_true rfl) ⟨⟨rfl, rfl⟩, by decide, by decide⟩ ⟨Nat.le_refl 0, Nat.le_refl 0⟩ [] [0, 1, 2, 3, 4, 5, 6, 7, 8, 9, 10, 11, 12, 13, 14, 15, 16] rfl rfl rfl rfl (by decide) 0 0 ⟨rfl, rfl⟩ 11 rfl (fun v w1 hq8 => ?_)
  obtain ⟨r8, rfl, rfl, hb8, h⟩ := hq8
  refine k_perm C [0, 1, 2, 3, 4, 5, 6, 7, 8, 9, 10, 11, 12, 13, 14, 15, 16] [.int (iI r8)] ((wdM cI cJ cZ qh B_h P_h N_h L_h E_h V_h G_h D_h O_h Z_h R_h I_h)) rfl rfl rfl ?_
  obtain ⟨ht, hf⟩ := h
  refine k_if_ne C dX7_gaps_11 (by rcases hb8 with rfl | rfl <;> decide) 16 14 (by decide) rfl (fun hc11 => ?_) (fun hc11 => ?_)
  · have h := ht hc11; clear ht hf
    refine k_aload_n C dX7_gaps_16 0 rfl rfl 17 rfl ?_
    have hM := c_X7_asNow (l := l) (D := D) (cI := cI) (cJ := cJ) (cZ := cZ) qh B_h P_h N_h L_h E_h V_h G_h D_h O_h Z_h R_h I_h _ h
    refine k_callV C dX7_gaps_17 hM gX7_gaps_X7_asNow rfl sg_X7_asNow 7 rfl rfl rfl (Nat.le_of_ble_eq_true rfl) ⟨⟨rfl, rfl⟩, by decide, by decide⟩ ⟨Nat.le_refl 0, Nat.le_refl 0⟩ [0, 1, 2, 3, 4, 5, 6, 7, 8, 9, 10, 11, 12, 13, 14, 15, 16] [] rfl rfl rfl rfl (by decide) 0 0 ⟨rfl, rfl⟩ 20 rfl (fun v w1 hq17 => ?_)
    obtain ⟨N_h_17, rfl, rfl, h⟩ := hq17
    refine k_perm C [0, 1, 2, 3, 4, 5, 6, 7, 8, 9, 10, 11, 12, 13, 14, 15, 16] [] ((wdM cI cJ cZ qh B_h P_h N_h_17 L_h E_h V_h G_h D_h O_h Z_h R_h I_h)) rfl rfl rfl ?_
    refine k_iconst C dX7_gaps_20 21 rfl ?_
    refine k_istore_n C dX7_gaps_21 rfl (by decide) [(2, .int (iI 0)), (0, .ref (qh 0)), (1, .int (iI x1))] rfl 22 rfl ?_
    refine k_iconst C dX7_gaps_22 23 rfl ?_
    refine k_istore_n C dX7_gaps_23 rfl (by decide) [(3, .int (iI 0)), (2, .int (iI 0)), (0, .ref (qh 0)), (1, .int (iI x1))] rfl 24 rfl ?_
    refine k_lv C [2, 3, 1, 0] [(0, .ref (qh 0)), (1, .int (iI x1)), (2, .int (iI 0)), (3, .int (iI 0))] rfl ?_
    obtain ⟨m24, h⟩ := h
    refine w_X7_gaps_24 C m24 x1 0 0 N_h_17 h (fun x2 N_h h => ?_)
    · refine k_iload_n C dX7_gaps_84 0 rfl rfl 85 rfl ?_
      exact k_iret C dX7_gaps_85 ⟨x2, N_h, rfl, rfl, h⟩
  · have h := hf hc11; clear ht hf
    refine k_iconst C dX7_gaps_14 15 rfl ?_
    exact k_iret C dX7_gaps_15 ⟨(-1), N_h, rfl, rfl, h⟩

/-! X7_where -/
abbrev rm_X7_where : Room := { frames := 6, cells := 0, slots := 0, locals := 141 }
theorem sg_X7_where : yX7_where.cls ≠ "java/lang/invoke/MethodHandle" ∧ yX7_where.cls ≠ "java/lang/invoke/VarHandle" ∧ (parseMethodDescriptor yX7_where.desc).map (fun d => d.parameters.length) = some 1 := by decide +kernel
theorem hin_X7_where_7 : ∀ w ∈ wsX70, w ∈ wsX7_where := fun _ h => List.mem_cons_of_mem _ (List.mem_append_right _ h)
def rp_X7_where (cI cJ cZ : ClassId) (qh : Nat → Nat) (B_h : gMB) (P_h : gMP) (E_h : gME) (G_h : gMG) (D_h : gMD) (O_h : gMO) (Z_h : gMZ) (R_h : gMR) (I_h : gMI) (Q : Int → gMN → gML → gMV → Prop) : Option Value → va_W → Prop := fun v w1 => ∃ (r : Int) (N_h : gMN) (L_h : gML) (V_h : gMV), v = some (.int (iI r)) ∧ w1 = (wdM cI cJ cZ qh B_h P_h N_h L_h E_h V_h G_h D_h O_h Z_h R_h I_h) ∧ Q r N_h L_h V_h
def wp_X7_where_94 (K_46 : Int → Int → Int → Int → Int → gMN → gML → gMV → Prop)  (Q : Int → gMN → gML → gMV → Prop) (x1 : Int) (x7 : Int) (N_h : gMN) (L_h : gML) (V_h : gMV) : Prop :=
    K_46 x1 x7 V_h.1 V_h.2 (x7 + 1) N_h L_h V_h
def wp_X7_where_46 (B_h : gMB) (P_h : gMP) (K_114 : Int → gMN → gML → gMV → Prop)  (Q : Int → gMN → gML → gMV → Prop) : Nat → Int → Int → Int → Int → Int → gMN → gML → gMV → Prop
  | 0, _, _, _, _, _, _, _, _ => False
  | n46 + 1, x1, x2, x3, x5, x7, N_h, L_h, V_h =>
    rI x7 ∧ rI B_h.1 ∧ ((B_h.1 ≤ x7 → K_114 x2 N_h L_h V_h) ∧ (¬ (B_h.1 ≤ x7) → wp_X7_asNow P_h N_h (fun (N_h_56 : gMN) => wp_X7_put B_h N_h_56 L_h x1 x7 (fun (r63 : Int) (N_h_63 : gMN) (L_h_63 : gML) => rI r63 ∧ ((¬ r63 = 0 → wp_X7_where_46 B_h P_h K_114 Q n46 x1 x2 x3 x5 (x7 + 1) N_h_63 L_h_63 V_h) ∧ (¬ (¬ r63 = 0) → wp_X7_layStrain B_h N_h_63 L_h_63 V_h (fun (L_h_70 : gML) (V_h_70 : gMV) => rI x2 ∧ ((x2 < 0 → wp_X7_where_94 (fun (x1 : Int) (x2 : Int) (x3 : Int) (x5 : Int) (x7 : Int) (N_h : gMN) (L_h : gML) (V_h : gMV) => wp_X7_where_46 B_h P_h K_114 Q n46 x1 x2 x3 x5 x7 N_h L_h V_h) Q x1 x7 N_h_63 L_h_70 V_h_70) ∧ (¬ (x2 < 0) → rL (V_h_70.1 * x5) ∧ rL (x3 * V_h_70.2) ∧ (((x3 * V_h_70.2) ≤ (V_h_70.1 * x5) → wp_X7_where_46 B_h P_h K_114 Q n46 x1 x2 x3 x5 (x7 + 1) N_h_63 L_h_70 V_h_70) ∧ (¬ ((x3 * V_h_70.2) ≤ (V_h_70.1 * x5)) → wp_X7_where_94 (fun (x1 : Int) (x2 : Int) (x3 : Int) (x5 : Int) (x7 : Int) (N_h : gMN) (L_h : gML) (V_h : gMV) => wp_X7_where_46 B_h P_h K_114 Q n46 x1 x2 x3 x5 x7 N_h L_h V_h) Q x1 x7 N_h_63 L_h_70 V_h_70)))))))))))
def wp_X7_where (B_h : gMB) (P_h : gMP) (N_h : gMN) (L_h : gML) (V_h : gMV) (x1 : Int) (Q : Int → gMN → gML → gMV → Prop) : Prop :=
    wp_X7_in x1 0 9 (fun (r4 : Int) => ((¬ r4 = 0 → wp_X7_has B_h.2.1 x1 (fun (r17 : Int) => ((r17 = 0 → Q (-3) N_h L_h V_h) ∧ (¬ (r17 = 0) → (0 ≤ x1 ∧ x1 < 10) ∧ rI (P_h.1 x1) ∧ (((P_h.1 x1) < 0 → ∃ m46, wp_X7_where_46 B_h P_h (fun (x2 : Int) (N_h : gMN) (L_h : gML) (V_h : gMV) => Q x2 N_h L_h V_h) Q m46 x1 (-6) 0 1 0 N_h L_h V_h) ∧ (¬ ((P_h.1 x1) < 0) → Q (-3) N_h L_h V_h)))))) ∧ (¬ (¬ r4 = 0) → Q (-1) N_h L_h V_h)))
set_option maxHeartbeats 4000000 in
set_option maxRecDepth 20000 in
theorem w_X7_where_94 {l : Launch} {D : va_G} {cI cJ cZ : ClassId} {A : Nat → Prop} {K : KT} {qh : Nat → Nat} {B_h : gMB} {P_h : gMP} {E_h : gME} {G_h : gMG} {D_h : gMD} {O_h : gMO} {Z_h : gMZ} {R_h : gMR} {I_h : gMI} {Q : Int → gMN → gML → gMV → Prop} {K_46 : Int → Int → Int → Int → Int → gMN → gML → gMV → Prop} (C : KC cX7_where yX7_where.cls wsX7_where rm_X7_where 8 D (kT cI cJ cZ) A l false (rp_X7_where cI cJ cZ qh B_h P_h E_h G_h D_h O_h Z_h R_h I_h Q) 0 0 K) : ∀ (x1 : Int) (x7 : Int) (N_h : gMN) (L_h : gML) (V_h : gMV), wp_X7_where_94 K_46 Q x1 x7 N_h L_h V_h → (∀ (x1 : Int) (x2 : Int) (x3 : Int) (x5 : Int) (x7 : Int) (N_h : gMN) (L_h : gML) (V_h : gMV), K_46 x1 x2 x3 x5 x7 N_h L_h V_h → K 0 0 46 [(0, .ref (qh 0)), (1, .int (iI x1)), (2, .int (iI x2)), (3, .long (lL x3)), (5, .long (lL x5)), (7, .int (iI x7))] [] ((wdM cI cJ cZ qh B_h P_h N_h L_h E_h V_h G_h D_h O_h Z_h R_h I_h))) → K 0 0 94 [(0, .ref (qh 0)), (1, .int (iI x1)), (7, .int (iI x7))] [] ((wdM cI cJ cZ qh B_h P_h N_h L_h E_h V_h G_h D_h O_h Z_h R_h I_h)) := by
  intro x1 x7 N_h L_h V_h h hK_46
  refine k_iload C dX7_where_94 2 rfl 96 rfl ?_
  refine k_istore_n C dX7_where_96 rfl (by decide) [(2, .int (iI x7)), (0, .ref (qh 0)), (1, .int (iI x1)), (7, .int (iI x7))] rfl 97 rfl ?_
  refine k_aload_n C dX7_where_97 1 rfl rfl 98 rfl ?_
  refine k_get C dX7_where_98 0 rfl (ci := 7) rfl hin_X7_where_7 15 (by decide) (List.mem_of_getElem? (i := 4) rfl) rfl 101 rfl ?_
  refine k_lstore_n C dX7_where_101 rfl (by decide) [(3, .long (lL V_h.1)), (2, .int (iI x7)), (0, .ref (qh 0)), (1, .int (iI x1)), (7, .int (iI x7))] rfl 102 rfl ?_
  refine k_aload_n C dX7_where_102 2 rfl rfl 103 rfl ?_
  refine k_get C dX7_where_103 0 rfl (ci := 7) rfl hin_X7_where_7 16 (by decide) (List.mem_of_getElem? (i := 5) rfl) rfl 106 rfl ?_
  refine k_lstore C dX7_where_106 (by decide) [(5, .long (lL V_h.2)), (3, .long (lL V_h.1)), (2, .int (iI x7)), (0, .ref (qh 0)), (1, .int (iI x1)), (7, .int (iI x7))] rfl 108 rfl ?_
  refine k_iinc (j := 5) C dX7_where_108 rfl (by decide) [(7, .int (iI (x7 + 1))), (5, .long (lL V_h.2)), (3, .long (lL V_h.1)), (2, .int (iI x7)), (0, .ref (qh 0)), (1, .int (iI x1))] rfl 111 rfl ?_
  refine k_goto C dX7_where_111 46 (by decide) ?_
  refine k_lv C [4, 5, 3, 2, 1, 0] [(0, .ref (qh 0)), (1, .int (iI x1)), (2, .int (iI x7)), (3, .long (lL V_h.1)), (5, .long (lL V_h.2)), (7, .int (iI (x7 + 1)))] rfl ?_
  exact hK_46 x1 x7 V_h.1 V_h.2 (x7 + 1) N_h L_h V_h h
set_option maxHeartbeats 4000000 in
set_option maxRecDepth 20000 in
theorem w_X7_where_46 {l : Launch} {D : va_G} {cI cJ cZ : ClassId} {A : Nat → Prop} {K : KT} {qh : Nat → Nat} {B_h : gMB} {P_h : gMP} {E_h : gME} {G_h : gMG} {D_h : gMD} {O_h : gMO} {Z_h : gMZ} {R_h : gMR} {I_h : gMI} {Q : Int → gMN → gML → gMV → Prop} {K_114 : Int → gMN → gML → gMV → Prop} (C : KC cX7_where yX7_where.cls wsX7_where rm_X7_where 8 D (kT cI cJ cZ) A l false (rp_X7_where cI cJ cZ qh B_h P_h E_h G_h D_h O_h Z_h R_h I_h Q) 0 0 K) : ∀ (n : Nat) (x1 : Int) (x2 : Int) (x3 : Int) (x5 : Int) (x7 : Int) (N_h : gMN) (L_h : gML) (V_h : gMV), wp_X7_where_46 B_h P_h K_114 Q n x1 x2 x3 x5 x7 N_h L_h V_h → (∀ (x2 : Int) (N_h : gMN) (L_h : gML) (V_h : gMV), K_114 x2 N_h L_h V_h → K 0 0 114 [(2, .int (iI x2))] [] ((wdM cI cJ cZ qh B_h P_h N_h L_h E_h V_h G_h D_h O_h Z_h R_h I_h))) → K 0 0 46 [(0, .ref (qh 0)), (1, .int (iI x1)), (2, .int (iI x2)), (3, .long (lL x3)), (5, .long (lL x5)), (7, .int (iI x7))] [] ((wdM cI cJ cZ qh B_h P_h N_h L_h E_h V_h G_h D_h O_h Z_h R_h I_h)) := by
  intro n
  induction n with
  | zero => intro x1 x2 x3 x5 x7 N_h L_h V_h h; exact h.elim
  | succ n ih =>
    intro x1 x2 x3 x5 x7 N_h L_h V_h h hK_114
    refine k_iload C dX7_where_46 5 rfl 48 rfl ?_
    refine k_aload_n C dX7_where_48 0 rfl rfl 49 rfl ?_
    refine k_get C dX7_where_49 0 rfl (ci := 7) rfl hin_X7_where_7 0 (by decide) (List.mem_of_getElem? (i := 3) rfl) rfl 52 rfl ?_
    obtain ⟨hr52a, hr52b, h⟩ := h
    obtain ⟨ht, hf⟩ := h
    refine k_icmp_ge C dX7_where_52 ⟨hr52a, hr52b⟩ 114 55 (by decide) rfl (fun hc52 => ?_) (fun hc52 => ?_)
    · have h := ht hc52; clear ht hf
      refine k_lv C [2] [(2, .int (iI x2))] rfl ?_
      exact hK_114 x2 N_h L_h V_h h
    · have h := hf hc52; clear ht hf
      refine k_aload_n C dX7_where_55 0 rfl rfl 56 rfl ?_
      have hM := c_X7_asNow (l := l) (D := D) (cI := cI) (cJ := cJ) (cZ := cZ) qh B_h P_h N_h L_h E_h V_h G_h D_h O_h Z_h R_h I_h _ h
      refine k_callV C dX7_where_56 hM gX7_where_X7_asNow rfl sg_X7_asNow 7 rfl rfl rfl (Nat.le_of_ble_eq_true rfl) ⟨⟨rfl, rfl⟩, by decide, by decide⟩ ⟨Nat.le_refl 0, Nat.le_refl 0⟩ [0, 1, 2, 3, 4, 5, 6, 7, 8, 9, 10, 11, 12, 13, 14, 15, 16] [] rfl rfl rfl rfl (by decide) 0 0 ⟨rfl, rfl⟩ 59 rfl (fun v w1 hq56 => ?_)
      obtain ⟨N_h_56, rfl, rfl, h⟩ := hq56
      refine k_perm C [0, 1, 2, 3, 4, 5, 6, 7, 8, 9, 10, 11, 12, 13, 14, 15, 16] [] ((wdM cI cJ cZ qh B_h P_h N_h_56 L_h E_h V_h G_h D_h O_h Z_h R_h I_h)) rfl rfl rfl ?_
      refine k_aload_n C dX7_where_59 0 rfl rfl 60 rfl ?_
      refine k_iload_n C dX7_where_60 1 rfl rfl 61 rfl ?_
      refine k_iload C dX7_where_61 5 rfl 63 rfl ?_
      have hM := c_X7_put (l := l) (D := D) (cI := cI) (cJ := cJ) (cZ := cZ) qh B_h P_h N_h_56 L_h E_h V_h G_h D_h O_h Z_h R_h I_h x1 x7 _ h
      refine k_callV C dX7_where_63 hM gX7_where_X7_put rfl sg_X7_put 7 rfl rfl rfl (Nat.le_of_ble_eq_true rfl) ⟨⟨rfl, rfl⟩, by decide, by decide⟩ ⟨Nat.le_refl 0, Nat.le_refl 0⟩ [0, 1, 2, 3, 4, 5, 6, 7, 8, 9, 10, 11, 12, 13, 14, 15, 16] [] rfl rfl rfl rfl (by decide) 0 0 ⟨rfl, rfl⟩ 66 rfl (fun v w1 hq63 => ?_)
      obtain ⟨r63, N_h_63, L_h_63, rfl, rfl, h⟩ := hq63
      refine k_perm C [0, 1, 2, 3, 4, 5, 6, 7, 8, 9, 10, 11, 12, 13, 14, 15, 16] [.int (iI r63)] ((wdM cI cJ cZ qh B_h P_h N_h_63 L_h_63 E_h V_h G_h D_h O_h Z_h R_h I_h)) rfl rfl rfl ?_
      obtain ⟨hr66a, h⟩ := h
      obtain ⟨ht, hf⟩ := h
      refine k_if_ne C dX7_where_66 hr66a 108 69 (by decide) rfl (fun hc66 => ?_) (fun hc66 => ?_)
      · have h := ht hc66; clear ht hf
        refine k_iinc (j := 5) C dX7_where_108 rfl (by decide) [(7, .int (iI (x7 + 1))), (0, .ref (qh 0)), (1, .int (iI x1)), (2, .int (iI x2)), (3, .long (lL x3)), (5, .long (lL x5))] rfl 111 rfl ?_
        refine k_goto C dX7_where_111 46 (by decide) ?_
        refine k_lv C [1, 2, 3, 4, 5, 0] [(0, .ref (qh 0)), (1, .int (iI x1)), (2, .int (iI x2)), (3, .long (lL x3)), (5, .long (lL x5)), (7, .int (iI (x7 + 1)))] rfl ?_
        exact ih x1 x2 x3 x5 (x7 + 1) N_h_63 L_h_63 V_h h hK_114
      · have h := hf hc66; clear ht hf
        refine k_aload_n C dX7_where_69 0 rfl rfl 70 rfl ?_
        have hM := c_X7_layStrain (l := l) (D := D) (cI := cI) (cJ := cJ) (cZ := cZ) qh B_h P_h N_h_63 L_h_63 E_h V_h G_h D_h O_h Z_h R_h I_h _ h
        refine k_callV C dX7_where_70 hM gX7_where_X7_layStrain rfl sg_X7_layStrain 7 rfl rfl rfl (Nat.le_of_ble_eq_true rfl) ⟨⟨rfl, rfl⟩, by decide, by decide⟩ ⟨Nat.le_refl 0, Nat.le_refl 0⟩ [0, 1, 2, 3, 4, 5, 6, 7, 8, 9, 10, 11, 12, 13, 14, 15, 16] [] rfl rfl rfl rfl (by decide) 0 0 ⟨rfl, rfl⟩ 73 rfl (fun v w1 hq70 => ?_)
        obtain ⟨L_h_70, V_h_70, rfl, rfl, h⟩ := hq70
        refine k_perm C [0, 1, 2, 3, 4, 5, 6, 7, 8, 9, 10, 11, 12, 13, 14, 15, 16] [] ((wdM cI cJ cZ qh B_h P_h N_h_63 L_h_70 E_h V_h_70 G_h D_h O_h Z_h R_h I_h)) rfl rfl rfl ?_
        refine k_iload_n C dX7_where_73 2 rfl rfl 74 rfl ?_
        obtain ⟨hr74a, h⟩ := h
        obtain ⟨ht, hf⟩ := h
        refine k_if_lt C dX7_where_74 hr74a 94 77 (by decide) rfl (fun hc74 => ?_) (fun hc74 => ?_)
        · have h := ht hc74; clear ht hf
          refine k_lv C [0, 1, 5] [(0, .ref (qh 0)), (1, .int (iI x1)), (7, .int (iI x7))] rfl ?_
          refine w_X7_where_94 C x1 x7 N_h_63 L_h_70 V_h_70 h (fun x1 x2 x3 x5 x7 N_h L_h V_h h => ?_)
          · exact ih x1 x2 x3 x5 x7 N_h L_h V_h h hK_114
        · have h := hf hc74; clear ht hf
          refine k_aload_n C dX7_where_77 0 rfl rfl 78 rfl ?_
          refine k_get C dX7_where_78 0 rfl (ci := 7) rfl hin_X7_where_7 15 (by decide) (List.mem_of_getElem? (i := 4) rfl) rfl 81 rfl ?_
          refine k_lload C dX7_where_81 4 rfl 83 rfl ?_
          refine k_lmul C dX7_where_83 84 rfl ?_
          refine k_lload_n C dX7_where_84 3 rfl rfl 85 rfl ?_
          refine k_aload_n C dX7_where_85 0 rfl rfl 86 rfl ?_
          refine k_get C dX7_where_86 0 rfl (ci := 7) rfl hin_X7_where_7 16 (by decide) (List.mem_of_getElem? (i := 5) rfl) rfl 89 rfl ?_
          refine k_lmul C dX7_where_89 90 rfl ?_
          obtain ⟨hr90a, hr90b, h⟩ := h
          obtain ⟨ht, hf⟩ := h
          refine k_lcmp_ge C dX7_where_90 dX7_where_91 ⟨hr90a, hr90b⟩ 108 94 (by decide) rfl (fun hc90 => ?_) (fun hc90 => ?_)
          · have h := ht hc90; clear ht hf
            refine k_iinc (j := 5) C dX7_where_108 rfl (by decide) [(7, .int (iI (x7 + 1))), (0, .ref (qh 0)), (1, .int (iI x1)), (2, .int (iI x2)), (3, .long (lL x3)), (5, .long (lL x5))] rfl 111 rfl ?_
            refine k_goto C dX7_where_111 46 (by decide) ?_
            refine k_lv C [1, 2, 3, 4, 5, 0] [(0, .ref (qh 0)), (1, .int (iI x1)), (2, .int (iI x2)), (3, .long (lL x3)), (5, .long (lL x5)), (7, .int (iI (x7 + 1)))] rfl ?_
            exact ih x1 x2 x3 x5 (x7 + 1) N_h_63 L_h_70 V_h_70 h hK_114
          · have h := hf hc90; clear ht hf
            refine k_lv C [0, 1, 5] [(0, .ref (qh 0)), (1, .int (iI x1)), (7, .int (iI x7))] rfl ?_
            refine w_X7_where_94 C x1 x7 N_h_63 L_h_70 V_h_70 h (fun x1 x2 x3 x5 x7 N_h L_h V_h h => ?_)
            · exact ih x1 x2 x3 x5 x7 N_h L_h V_h h hK_114
set_option maxHeartbeats 4000000 in
set_option maxRecDepth 20000 in
theorem c_X7_where {l : Launch} {D : va_G} {cI cJ cZ : ClassId} (qh : Nat → Nat) (B_h : gMB) (P_h : gMP) (N_h : gMN) (L_h : gML) (E_h : gME) (V_h : gMV) (G_h : gMG) (D_h : gMD) (O_h : gMO) (Z_h : gMZ) (R_h : gMR) (I_h : gMI) (x1 : Int) (Q : Int → gMN → gML → gMV → Prop) (h : wp_X7_where B_h P_h N_h L_h V_h x1 Q) : KM l D (kT cI cJ cZ) 0 0 yX7_where wsX7_where rm_X7_where [.ref (qh 0), .int (iI x1)] ((wdM cI cJ cZ qh B_h P_h N_h L_h E_h V_h G_h D_h O_h Z_h R_h I_h)) (rp_X7_where cI cJ cZ qh B_h P_h E_h G_h D_h O_h Z_h R_h I_h Q) := by
  refine KM_intro (lv := [(0, .ref (qh 0)), (1, .int (iI x1))]) false rfl (by decide) (Nat.le_of_ble_eq_true rfl) rfl (fun h => absurd h (by decide)) (fun v ws hq => by obtain ⟨r, N_h, L_h, V_h, rfl, rfl, _⟩ := hq; exact Or.inr (Or.inl ⟨rfl, _, rfl⟩)) (fun A K C => ?_)
  refine k_iload_n C dX7_where_0 1 rfl rfl 1 rfl ?_
  refine k_iconst C dX7_where_1 2 rfl ?_
  refine k_bipush C dX7_where_2 (by decide) 4 rfl ?_
  have hM := c_X7_in (l := l) (D := D) (cI := cI) (cJ := cJ) (cZ := cZ) x1 0 9 _ h
  refine k_callS C dX7_where_4 hM gX7_where_X7_in rfl sg_X7_in rfl (Nat.le_of_ble_eq_true rfl) ⟨⟨rfl, rfl⟩, by decide, by decide⟩ ⟨Nat.le_refl 0, Nat.le_refl 0⟩ [] [0, 1, 2, 3, 4, 5, 6, 7, 8, 9, 10, 11, 12, 13, 14, 15, 16] rfl rfl rfl rfl (by decide) 0 0 ⟨rfl, rfl⟩ 7 rfl (fun v w1 hq4 => ?_)
  obtain ⟨r4, rfl, rfl, hb4, h⟩ := hq4
  refine k_perm C [0, 1, 2, 3, 4, 5, 6, 7, 8, 9, 10, 11, 12, 13, 14, 15, 16] [.int (iI r4)] ((wdM cI cJ cZ qh B_h P_h N_h L_h E_h V_h G_h D_h O_h Z_h R_h I_h)) rfl rfl rfl ?_
  obtain ⟨ht, hf⟩ := h
  refine k_if_ne C dX7_where_7 (by rcases hb4 with rfl | rfl <;> decide) 12 10 (by decide) rfl (fun hc7 => ?_) (fun hc7 => ?_)
  · have h := ht hc7; clear ht hf
    refine k_aload_n C dX7_where_12 0 rfl rfl 13 rfl ?_
    refine k_get C dX7_where_13 0 rfl (ci := 7) rfl hin_X7_where_7 1 (by decide) (List.mem_of_getElem? (i := 1) rfl) rfl 16 rfl ?_
    refine k_iload_n C dX7_where_16 1 rfl rfl 17 rfl ?_
    have hM := c_X7_has (l := l) (D := D) (cI := cI) (cJ := cJ) (cZ := cZ) B_h.2.1 x1 _ h
    refine k_callS C dX7_where_17 hM gX7_where_X7_has rfl sg_X7_has rfl (Nat.le_of_ble_eq_true rfl) ⟨⟨rfl, rfl⟩, by decide, by decide⟩ ⟨Nat.le_refl 0, Nat.le_refl 0⟩ [] [0, 1, 2, 3, 4, 5, 6, 7, 8, 9, 10, 11, 12, 13, 14, 15, 16] rfl rfl rfl rfl (by decide) 0 0 ⟨rfl, rfl⟩ 20 rfl (fun v w1 hq17 => ?_)
    obtain ⟨r17, rfl, rfl, hb17, h⟩ := hq17
    refine k_perm C [0, 1, 2, 3, 4, 5, 6, 7, 8, 9, 10, 11, 12, 13, 14, 15, 16] [.int (iI r17)] ((wdM cI cJ cZ qh B_h P_h N_h L_h E_h V_h G_h D_h O_h Z_h R_h I_h)) rfl rfl rfl ?_
    obtain ⟨ht, hf⟩ := h
    refine k_if_eq C dX7_where_20 (by rcases hb17 with rfl | rfl <;> decide) 32 23 (by decide) rfl (fun hc20 => ?_) (fun hc20 => ?_)
    · have h := ht hc20; clear ht hf
      refine k_bipush C dX7_where_32 (by decide) 34 rfl ?_
      exact k_iret C dX7_where_34 ⟨(-3), N_h, L_h, V_h, rfl, rfl, h⟩
    · have h := hf hc20; clear ht hf
      refine k_aload_n C dX7_where_23 0 rfl rfl 24 rfl ?_
      refine k_get C dX7_where_24 0 rfl (ci := 7) rfl hin_X7_where_7 5 (by decide) (List.mem_of_getElem? (i := 2) rfl) rfl 27 rfl ?_
      refine k_iload_n C dX7_where_27 1 rfl rfl 28 rfl ?_
      obtain ⟨hi28, h⟩ := h
      refine k_iaload C dX7_where_28 4 0 rfl rfl (by decide) hi28 29 rfl ?_
      obtain ⟨hr29a, h⟩ := h
      obtain ⟨ht, hf⟩ := h
      refine k_if_lt C dX7_where_29 hr29a 35 32 (by decide) rfl (fun hc29 => ?_) (fun hc29 => ?_)
      · have h := ht hc29; clear ht hf
        refine k_bipush C dX7_where_35 (by decide) 37 rfl ?_
        refine k_istore_n C dX7_where_37 rfl (by decide) [(2, .int (iI (-6))), (0, .ref (qh 0)), (1, .int (iI x1))] rfl 38 rfl ?_
        refine k_lconst (v := 0) C dX7_where_38 (by decide) 39 rfl ?_
        refine k_lstore_n C dX7_where_39 rfl (by decide) [(3, .long (lL 0)), (2, .int (iI (-6))), (0, .ref (qh 0)), (1, .int (iI x1))] rfl 40 rfl ?_
        refine k_lconst (v := 1) C dX7_where_40 (by decide) 41 rfl ?_
        refine k_lstore C dX7_where_41 (by decide) [(5, .long (lL 1)), (3, .long (lL 0)), (2, .int (iI (-6))), (0, .ref (qh 0)), (1, .int (iI x1))] rfl 43 rfl ?_
        refine k_iconst C dX7_where_43 44 rfl ?_
        refine k_istore C dX7_where_44 (by decide) [(7, .int (iI 0)), (5, .long (lL 1)), (3, .long (lL 0)), (2, .int (iI (-6))), (0, .ref (qh 0)), (1, .int (iI x1))] rfl 46 rfl ?_
        refine k_lv C [4, 5, 3, 2, 1, 0] [(0, .ref (qh 0)), (1, .int (iI x1)), (2, .int (iI (-6))), (3, .long (lL 0)), (5, .long (lL 1)), (7, .int (iI 0))] rfl ?_
        obtain ⟨m46, h⟩ := h
        refine w_X7_where_46 C m46 x1 (-6) 0 1 0 N_h L_h V_h h (fun x2 N_h L_h V_h h => ?_)
        · refine k_iload_n C dX7_where_114 0 rfl rfl 115 rfl ?_
          exact k_iret C dX7_where_115 ⟨x2, N_h, L_h, V_h, rfl, rfl, h⟩
      · have h := hf hc29; clear ht hf
        refine k_bipush C dX7_where_32 (by decide) 34 rfl ?_
        exact k_iret C dX7_where_34 ⟨(-3), N_h, L_h, V_h, rfl, rfl, h⟩
  · have h := hf hc7; clear ht hf
    refine k_iconst C dX7_where_10 11 rfl ?_
    exact k_iret C dX7_where_11 ⟨(-1), N_h, L_h, V_h, rfl, rfl, h⟩

/-! X7_gate -/
abbrev rm_X7_gate : Room := { frames := 6, cells := 0, slots := 0, locals := 141 }
theorem sg_X7_gate : yX7_gate.cls ≠ "java/lang/invoke/MethodHandle" ∧ yX7_gate.cls ≠ "java/lang/invoke/VarHandle" ∧ (parseMethodDescriptor yX7_gate.desc).map (fun d => d.parameters.length) = some 3 := by decide +kernel
theorem hin_X7_gate_7 : ∀ w ∈ wsX70, w ∈ wsX7_gate := fun _ h => List.mem_cons_of_mem _ (List.mem_append_right _ h)
def rp_X7_gate (cI cJ cZ : ClassId) (qh : Nat → Nat) (B_h : gMB) (P_h : gMP) (E_h : gME) (V_h : gMV) (G_h : gMG) (D_h : gMD) (O_h : gMO) (Z_h : gMZ) (R_h : gMR) (I_h : gMI) (Q : Int → gMN → gML → Prop) : Option Value → va_W → Prop := fun v w1 => ∃ (r : Int) (N_h : gMN) (L_h : gML), v = some (.int (iI r)) ∧ w1 = (wdM cI cJ cZ qh B_h P_h N_h L_h E_h V_h G_h D_h O_h Z_h R_h I_h) ∧ Q r N_h L_h
def wp_X7_gate_104 (K_44 : Int → Int → Int → Int → Int → gMN → gML → Prop)  (Q : Int → gMN → gML → Prop) (x1 : Int) (x2 : Int) (x3 : Int) (x4 : Int) (x5 : Int) (s0 : Int) (N_h : gMN) (L_h : gML) : Prop :=
    rI s0 ∧ ((s0 = 0 → K_44 x1 x2 x3 (ior x4 0) (x5 + 1) N_h L_h) ∧ (¬ (s0 = 0) → K_44 x1 x2 x3 (ior x4 (ishl 1 x5)) (x5 + 1) N_h L_h))
def wp_X7_gate_44 (B_h : gMB) (P_h : gMP) (K_130 : Int → gMN → gML → Prop)  (Q : Int → gMN → gML → Prop) : Nat → Int → Int → Int → Int → Int → gMN → gML → Prop
  | 0, _, _, _, _, _, _, _ => False
  | n44 + 1, x1, x2, x3, x4, x5, N_h, L_h =>
    rI x5 ∧ ((10 ≤ x5 → K_130 x4 N_h L_h) ∧ (¬ (10 ≤ x5) → wp_X7_asNow P_h N_h (fun (N_h_52 : gMN) => wp_X7_has B_h.2.1 x5 (fun (r61 : Int) => ((r61 = 0 → wp_X7_gate_104 (fun (x1 : Int) (x2 : Int) (x3 : Int) (x4 : Int) (x5 : Int) (N_h : gMN) (L_h : gML) => wp_X7_gate_44 B_h P_h K_130 Q n44 x1 x2 x3 x4 x5 N_h L_h) Q x1 x2 x3 x4 x5 0 N_h_52 L_h) ∧ (¬ (r61 = 0) → (0 ≤ x5 ∧ x5 < 10) ∧ rI (B_h.2.2.1 x5) ∧ rI x3 ∧ ((¬ (B_h.2.2.1 x5) = x3 → wp_X7_gate_104 (fun (x1 : Int) (x2 : Int) (x3 : Int) (x4 : Int) (x5 : Int) (N_h : gMN) (L_h : gML) => wp_X7_gate_44 B_h P_h K_130 Q n44 x1 x2 x3 x4 x5 N_h L_h) Q x1 x2 x3 x4 x5 0 N_h_52 L_h) ∧ (¬ (¬ (B_h.2.2.1 x5) = x3) → wp_X7_put B_h N_h_52 L_h x5 x1 (fun (r82 : Int) (N_h_82 : gMN) (L_h_82 : gML) => rI r82 ∧ ((¬ r82 = 0 → wp_X7_gate_104 (fun (x1 : Int) (x2 : Int) (x3 : Int) (x4 : Int) (x5 : Int) (N_h : gMN) (L_h : gML) => wp_X7_gate_44 B_h P_h K_130 Q n44 x1 x2 x3 x4 x5 N_h L_h) Q x1 x2 x3 x4 x5 0 N_h_82 L_h_82) ∧ (¬ (¬ r82 = 0) → rI (N_h_82.1 x5) ∧ rI x2 ∧ ((¬ (N_h_82.1 x5) = x2 → wp_X7_gate_104 (fun (x1 : Int) (x2 : Int) (x3 : Int) (x4 : Int) (x5 : Int) (N_h : gMN) (L_h : gML) => wp_X7_gate_44 B_h P_h K_130 Q n44 x1 x2 x3 x4 x5 N_h L_h) Q x1 x2 x3 x4 x5 0 N_h_82 L_h_82) ∧ (¬ (¬ (N_h_82.1 x5) = x2) → wp_X7_gate_104 (fun (x1 : Int) (x2 : Int) (x3 : Int) (x4 : Int) (x5 : Int) (N_h : gMN) (L_h : gML) => wp_X7_gate_44 B_h P_h K_130 Q n44 x1 x2 x3 x4 x5 N_h L_h) Q x1 x2 x3 x4 x5 1 N_h_82 L_h_82)))))))))))))
def wp_X7_gate (B_h : gMB) (P_h : gMP) (N_h : gMN) (L_h : gML) (x1 : Int) (x2 : Int) (x3 : Int) (Q : Int → gMN → gML → Prop) : Prop :=
    wp_X7_in x1 0 (B_h.1 - 1) (fun (r8 : Int) => ((¬ r8 = 0 → wp_X7_in x2 0 9 (fun (r20 : Int) => ((r20 = 0 → Q (-2) N_h L_h) ∧ (¬ (r20 = 0) → wp_X7_in x3 1 3 (fun (r29 : Int) => ((¬ r29 = 0 → ∃ m44, wp_X7_gate_44 B_h P_h (fun (x4 : Int) (N_h : gMN) (L_h : gML) => Q x4 N_h L_h) Q m44 x1 x2 x3 0 0 N_h L_h) ∧ (¬ (¬ r29 = 0) → Q (-2) N_h L_h))))))) ∧ (¬ (¬ r8 = 0) → Q (-1) N_h L_h)))
set_option maxHeartbeats 4000000 in
set_option maxRecDepth 20000 in
theorem w_X7_gate_104 {l : Launch} {D : va_G} {cI cJ cZ : ClassId} {A : Nat → Prop} {K : KT} {qh : Nat → Nat} {B_h : gMB} {P_h : gMP} {E_h : gME} {V_h : gMV} {G_h : gMG} {D_h : gMD} {O_h : gMO} {Z_h : gMZ} {R_h : gMR} {I_h : gMI} {Q : Int → gMN → gML → Prop} {K_44 : Int → Int → Int → Int → Int → gMN → gML → Prop} (C : KC cX7_gate yX7_gate.cls wsX7_gate rm_X7_gate 7 D (kT cI cJ cZ) A l false (rp_X7_gate cI cJ cZ qh B_h P_h E_h V_h G_h D_h O_h Z_h R_h I_h Q) 0 0 K) : ∀ (x1 : Int) (x2 : Int) (x3 : Int) (x4 : Int) (x5 : Int) (s0 : Int) (N_h : gMN) (L_h : gML), wp_X7_gate_104 K_44 Q x1 x2 x3 x4 x5 s0 N_h L_h → (∀ (x1 : Int) (x2 : Int) (x3 : Int) (x4 : Int) (x5 : Int) (N_h : gMN) (L_h : gML), K_44 x1 x2 x3 x4 x5 N_h L_h → K 0 0 44 [(0, .ref (qh 0)), (1, .int (iI x1)), (2, .int (iI x2)), (3, .int (iI x3)), (4, .int (iI x4)), (5, .int (iI x5))] [] ((wdM cI cJ cZ qh B_h P_h N_h L_h E_h V_h G_h D_h O_h Z_h R_h I_h))) → K 0 0 104 [(0, .ref (qh 0)), (1, .int (iI x1)), (2, .int (iI x2)), (3, .int (iI x3)), (4, .int (iI x4)), (5, .int (iI x5))] [.int (iI s0)] ((wdM cI cJ cZ qh B_h P_h N_h L_h E_h V_h G_h D_h O_h Z_h R_h I_h)) := by
  intro x1 x2 x3 x4 x5 s0 N_h L_h h hK_44
  refine k_istore C dX7_gate_104 (by decide) [(6, .int (iI s0)), (0, .ref (qh 0)), (1, .int (iI x1)), (2, .int (iI x2)), (3, .int (iI x3)), (4, .int (iI x4)), (5, .int (iI x5))] rfl 106 rfl ?_
  refine k_iload C dX7_gate_106 5 rfl 108 rfl ?_
  refine k_iload C dX7_gate_108 0 rfl 110 rfl ?_
  obtain ⟨hr110a, h⟩ := h
  obtain ⟨ht, hf⟩ := h
  refine k_if_eq C dX7_gate_110 hr110a 120 113 (by decide) rfl (fun hc110 => ?_) (fun hc110 => ?_)
  · have h := ht hc110; clear ht hf
    refine k_iconst C dX7_gate_120 121 rfl ?_
    refine k_ior C dX7_gate_121 122 rfl ?_
    refine k_istore C dX7_gate_122 (by decide) [(4, .int (iI (ior x4 0))), (6, .int (iI s0)), (0, .ref (qh 0)), (1, .int (iI x1)), (2, .int (iI x2)), (3, .int (iI x3)), (5, .int (iI x5))] rfl 124 rfl ?_
    refine k_iinc (j := 6) C dX7_gate_124 rfl (by decide) [(5, .int (iI (x5 + 1))), (4, .int (iI (ior x4 0))), (6, .int (iI s0)), (0, .ref (qh 0)), (1, .int (iI x1)), (2, .int (iI x2)), (3, .int (iI x3))] rfl 127 rfl ?_
    refine k_goto C dX7_gate_127 44 (by decide) ?_
    refine k_lv C [3, 4, 5, 6, 1, 0] [(0, .ref (qh 0)), (1, .int (iI x1)), (2, .int (iI x2)), (3, .int (iI x3)), (4, .int (iI (ior x4 0))), (5, .int (iI (x5 + 1)))] rfl ?_
    exact hK_44 x1 x2 x3 (ior x4 0) (x5 + 1) N_h L_h h
  · have h := hf hc110; clear ht hf
    refine k_iconst C dX7_gate_113 114 rfl ?_
    refine k_iload C dX7_gate_114 6 rfl 116 rfl ?_
    refine k_ishl C dX7_gate_116 117 rfl ?_
    refine k_goto C dX7_gate_117 121 (by decide) ?_
    refine k_ior C dX7_gate_121 122 rfl ?_
    refine k_istore C dX7_gate_122 (by decide) [(4, .int (iI (ior x4 (ishl 1 x5)))), (6, .int (iI s0)), (0, .ref (qh 0)), (1, .int (iI x1)), (2, .int (iI x2)), (3, .int (iI x3)), (5, .int (iI x5))] rfl 124 rfl ?_
    refine k_iinc (j := 6) C dX7_gate_124 rfl (by decide) [(5, .int (iI (x5 + 1))), (4, .int (iI (ior x4 (ishl 1 x5)))), (6, .int (iI s0)), (0, .ref (qh 0)), (1, .int (iI x1)), (2, .int (iI x2)), (3, .int (iI x3))] rfl 127 rfl ?_
    refine k_goto C dX7_gate_127 44 (by decide) ?_
    refine k_lv C [3, 4, 5, 6, 1, 0] [(0, .ref (qh 0)), (1, .int (iI x1)), (2, .int (iI x2)), (3, .int (iI x3)), (4, .int (iI (ior x4 (ishl 1 x5)))), (5, .int (iI (x5 + 1)))] rfl ?_
    exact hK_44 x1 x2 x3 (ior x4 (ishl 1 x5)) (x5 + 1) N_h L_h h
set_option maxHeartbeats 4000000 in
set_option maxRecDepth 20000 in
theorem w_X7_gate_44 {l : Launch} {D : va_G} {cI cJ cZ : ClassId} {A : Nat → Prop} {K : KT} {qh : Nat → Nat} {B_h : gMB} {P_h : gMP} {E_h : gME} {V_h : gMV} {G_h : gMG} {D_h : gMD} {O_h : gMO} {Z_h : gMZ} {R_h : gMR} {I_h : gMI} {Q : Int → gMN → gML → Prop} {K_130 : Int → gMN → gML → Prop} (C : KC cX7_gate yX7_gate.cls wsX7_gate rm_X7_gate 7 D (kT cI cJ cZ) A l false (rp_X7_gate cI cJ cZ qh B_h P_h E_h V_h G_h D_h O_h Z_h R_h I_h Q) 0 0 K) : ∀ (n : Nat) (x1 : Int) (x2 : Int) (x3 : Int) (x4 : Int) (x5 : Int) (N_h : gMN) (L_h : gML), wp_X7_gate_44 B_h P_h K_130 Q n x1 x2 x3 x4 x5 N_h L_h → (∀ (x4 : Int) (N_h : gMN) (L_h : gML), K_130 x4 N_h L_h → K 0 0 130 [(4, .int (iI x4))] [] ((wdM cI cJ cZ qh B_h P_h N_h L_h E_h V_h G_h D_h O_h Z_h R_h I_h))) → K 0 0 44 [(0, .ref (qh 0)), (1, .int (iI x1)), (2, .int (iI x2)), (3, .int (iI x3)), (4, .int (iI x4)), (5, .int (iI x5))] [] ((wdM cI cJ cZ qh B_h P_h N_h L_h E_h V_h G_h D_h O_h Z_h R_h I_h)) := by
  intro n
  induction n with
  | zero => intro x1 x2 x3 x4 x5 N_h L_h h; exact h.elim
  | succ n ih =>
    intro x1 x2 x3 x4 x5 N_h L_h h hK_130
    refine k_iload C dX7_gate_44 5 rfl 46 rfl ?_
    refine k_bipush C dX7_gate_46 (by decide) 48 rfl ?_
    obtain ⟨hr48a, h⟩ := h
    obtain ⟨ht, hf⟩ := h
    refine k_icmp_ge C dX7_gate_48 ⟨hr48a, (by decide)⟩ 130 51 (by decide) rfl (fun hc48 => ?_) (fun hc48 => ?_)
    · have h := ht hc48; clear ht hf
      refine k_lv C [4] [(4, .int (iI x4))] rfl ?_
      exact hK_130 x4 N_h L_h h
    · have h := hf hc48; clear ht hf
      refine k_aload_n C dX7_gate_51 0 rfl rfl 52 rfl ?_
      have hM := c_X7_asNow (l := l) (D := D) (cI := cI) (cJ := cJ) (cZ := cZ) qh B_h P_h N_h L_h E_h V_h G_h D_h O_h Z_h R_h I_h _ h
      refine k_callV C dX7_gate_52 hM gX7_gate_X7_asNow rfl sg_X7_asNow 7 rfl rfl rfl (Nat.le_of_ble_eq_true rfl) ⟨⟨rfl, rfl⟩, by decide, by decide⟩ ⟨Nat.le_refl 0, Nat.le_refl 0⟩ [0, 1, 2, 3, 4, 5, 6, 7, 8, 9, 10, 11, 12, 13, 14, 15, 16] [] rfl rfl rfl rfl (by decide) 0 0 ⟨rfl, rfl⟩ 55 rfl (fun v w1 hq52 => ?_)
      obtain ⟨N_h_52, rfl, rfl, h⟩ := hq52
      refine k_perm C [0, 1, 2, 3, 4, 5, 6, 7, 8, 9, 10, 11, 12, 13, 14, 15, 16] [] ((wdM cI cJ cZ qh B_h P_h N_h_52 L_h E_h V_h G_h D_h O_h Z_h R_h I_h)) rfl rfl rfl ?_
      refine k_aload_n C dX7_gate_55 0 rfl rfl 56 rfl ?_
      refine k_get C dX7_gate_56 0 rfl (ci := 7) rfl hin_X7_gate_7 1 (by decide) (List.mem_of_getElem? (i := 2) rfl) rfl 59 rfl ?_
      refine k_iload C dX7_gate_59 5 rfl 61 rfl ?_
      have hM := c_X7_has (l := l) (D := D) (cI := cI) (cJ := cJ) (cZ := cZ) B_h.2.1 x5 _ h
      refine k_callS C dX7_gate_61 hM gX7_gate_X7_has rfl sg_X7_has rfl (Nat.le_of_ble_eq_true rfl) ⟨⟨rfl, rfl⟩, by decide, by decide⟩ ⟨Nat.le_refl 0, Nat.le_refl 0⟩ [] [0, 1, 2, 3, 4, 5, 6, 7, 8, 9, 10, 11, 12, 13, 14, 15, 16] rfl rfl rfl rfl (by decide) 0 0 ⟨rfl, rfl⟩ 64 rfl (fun v w1 hq61 => ?_)
      obtain ⟨r61, rfl, rfl, hb61, h⟩ := hq61
      refine k_perm C [0, 1, 2, 3, 4, 5, 6, 7, 8, 9, 10, 11, 12, 13, 14, 15, 16] [.int (iI r61)] ((wdM cI cJ cZ qh B_h P_h N_h_52 L_h E_h V_h G_h D_h O_h Z_h R_h I_h)) rfl rfl rfl ?_
      obtain ⟨ht, hf⟩ := h
      refine k_if_eq C dX7_gate_64 (by rcases hb61 with rfl | rfl <;> decide) 103 67 (by decide) rfl (fun hc64 => ?_) (fun hc64 => ?_)
      · have h := ht hc64; clear ht hf
        refine k_iconst C dX7_gate_103 104 rfl ?_
        refine w_X7_gate_104 C x1 x2 x3 x4 x5 0 N_h_52 L_h h (fun x1 x2 x3 x4 x5 N_h L_h h => ?_)
        · exact ih x1 x2 x3 x4 x5 N_h L_h h hK_130
      · have h := hf hc64; clear ht hf
        refine k_aload_n C dX7_gate_67 0 rfl rfl 68 rfl ?_
        refine k_get C dX7_gate_68 0 rfl (ci := 7) rfl hin_X7_gate_7 2 (by decide) (List.mem_of_getElem? (i := 3) rfl) rfl 71 rfl ?_
        refine k_iload C dX7_gate_71 5 rfl 73 rfl ?_
        obtain ⟨hi73, h⟩ := h
        refine k_iaload C dX7_gate_73 1 0 rfl rfl (by decide) hi73 74 rfl ?_
        refine k_iload_n C dX7_gate_74 3 rfl rfl 75 rfl ?_
        obtain ⟨hr75a, hr75b, h⟩ := h
        obtain ⟨ht, hf⟩ := h
        refine k_icmp_ne C dX7_gate_75 ⟨hr75a, hr75b⟩ 103 78 (by decide) rfl (fun hc75 => ?_) (fun hc75 => ?_)
        · have h := ht hc75; clear ht hf
          refine k_iconst C dX7_gate_103 104 rfl ?_
          refine w_X7_gate_104 C x1 x2 x3 x4 x5 0 N_h_52 L_h h (fun x1 x2 x3 x4 x5 N_h L_h h => ?_)
          · exact ih x1 x2 x3 x4 x5 N_h L_h h hK_130
        · have h := hf hc75; clear ht hf
          refine k_aload_n C dX7_gate_78 0 rfl rfl 79 rfl ?_
          refine k_iload C dX7_gate_79 5 rfl 81 rfl ?_
          refine k_iload_n C dX7_gate_81 1 rfl rfl 82 rfl ?_
          have hM := c_X7_put (l := l) (D := D) (cI := cI) (cJ := cJ) (cZ := cZ) qh B_h P_h N_h_52 L_h E_h V_h G_h D_h O_h Z_h R_h I_h x5 x1 _ h
          refine k_callV C dX7_gate_82 hM gX7_gate_X7_put rfl sg_X7_put 7 rfl rfl rfl (Nat.le_of_ble_eq_true rfl) ⟨⟨rfl, rfl⟩, by decide, by decide⟩ ⟨Nat.le_refl 0, Nat.le_refl 0⟩ [0, 1, 2, 3, 4, 5, 6, 7, 8, 9, 10, 11, 12, 13, 14, 15, 16] [] rfl rfl rfl rfl (by decide) 0 0 ⟨rfl, rfl⟩ 85 rfl (fun v w1 hq82 => ?_)
          obtain ⟨r82, N_h_82, L_h_82, rfl, rfl, h⟩ := hq82
          refine k_perm C [0, 1, 2, 3, 4, 5, 6, 7, 8, 9, 10, 11, 12, 13, 14, 15, 16] [.int (iI r82)] ((wdM cI cJ cZ qh B_h P_h N_h_82 L_h_82 E_h V_h G_h D_h O_h Z_h R_h I_h)) rfl rfl rfl ?_
          obtain ⟨hr85a, h⟩ := h
          obtain ⟨ht, hf⟩ := h
          refine k_if_ne C dX7_gate_85 hr85a 103 88 (by decide) rfl (fun hc85 => ?_) (fun hc85 => ?_)
          · have h := ht hc85; clear ht hf
            refine k_iconst C dX7_gate_103 104 rfl ?_
            refine w_X7_gate_104 C x1 x2 x3 x4 x5 0 N_h_82 L_h_82 h (fun x1 x2 x3 x4 x5 N_h L_h h => ?_)
            · exact ih x1 x2 x3 x4 x5 N_h L_h h hK_130
          · have h := hf hc85; clear ht hf
            refine k_aload_n C dX7_gate_88 0 rfl rfl 89 rfl ?_
            refine k_get C dX7_gate_89 0 rfl (ci := 7) rfl hin_X7_gate_7 11 (by decide) (List.mem_of_getElem? (i := 4) rfl) rfl 92 rfl ?_
            refine k_iload C dX7_gate_92 5 rfl 94 rfl ?_
            refine k_iaload C dX7_gate_94 8 0 rfl rfl (by decide) hi73 95 rfl ?_
            refine k_iload_n C dX7_gate_95 2 rfl rfl 96 rfl ?_
            obtain ⟨hr96a, hr96b, h⟩ := h
            obtain ⟨ht, hf⟩ := h
            refine k_icmp_ne C dX7_gate_96 ⟨hr96a, hr96b⟩ 103 99 (by decide) rfl (fun hc96 => ?_) (fun hc96 => ?_)
            · have h := ht hc96; clear ht hf
              refine k_iconst C dX7_gate_103 104 rfl ?_
              refine w_X7_gate_104 C x1 x2 x3 x4 x5 0 N_h_82 L_h_82 h (fun x1 x2 x3 x4 x5 N_h L_h h => ?_)
              · exact ih x1 x2 x3 x4 x5 N_h L_h h hK_130
            · have h := hf hc96; clear ht hf
              refine k_iconst C dX7_gate_99 100 rfl ?_
              refine k_goto C dX7_gate_100 104 (by decide) ?_
              refine w_X7_gate_104 C x1 x2 x3 x4 x5 1 N_h_82 L_h_82 h (fun x1 x2 x3 x4 x5 N_h L_h h => ?_)
              · exact ih x1 x2 x3 x4 x5 N_h L_h h hK_130
set_option maxHeartbeats 4000000 in
set_option maxRecDepth 20000 in
theorem c_X7_gate {l : Launch} {D : va_G} {cI cJ cZ : ClassId} (qh : Nat → Nat) (B_h : gMB) (P_h : gMP) (N_h : gMN) (L_h : gML) (E_h : gME) (V_h : gMV) (G_h : gMG) (D_h : gMD) (O_h : gMO) (Z_h : gMZ) (R_h : gMR) (I_h : gMI) (x1 : Int) (x2 : Int) (x3 : Int) (Q : Int → gMN → gML → Prop) (h : wp_X7_gate B_h P_h N_h L_h x1 x2 x3 Q) : KM l D (kT cI cJ cZ) 0 0 yX7_gate wsX7_gate rm_X7_gate [.ref (qh 0), .int (iI x1), .int (iI x2), .int (iI x3)] ((wdM cI cJ cZ qh B_h P_h N_h L_h E_h V_h G_h D_h O_h Z_h R_h I_h)) (rp_X7_gate cI cJ cZ qh B_h P_h E_h V_h G_h D_h O_h Z_h R_h I_h Q) := by
  refine KM_intro (lv := [(0, .ref (qh 0)), (1, .int (iI x1)), (2, .int (iI x2)), (3, .int (iI x3))]) false rfl (by decide) (Nat.le_of_ble_eq_true rfl) rfl (fun h => absurd h (by decide)) (fun v ws hq => by obtain ⟨r, N_h, L_h, rfl, rfl, _⟩ := hq; exact Or.inr (Or.inl ⟨rfl, _, rfl⟩)) (fun A K C => ?_)
  refine k_iload_n C dX7_gate_0 1 rfl rfl 1 rfl ?_
  refine k_iconst C dX7_gate_1 2 rfl ?_
  refine k_aload_n C dX7_gate_2 0 rfl rfl 3 rfl ?_
  refine k_get C dX7_gate_3 0 rfl (ci := 7) rfl hin_X7_gate_7 0 (by decide) (List.mem_of_getElem? (i := 1) rfl) rfl 6 rfl ?_
  refine k_iconst C dX7_gate_6 7 rfl ?_
  refine k_isub C dX7_gate_7 8 rfl ?_
  have hM := c_X7_in (l := l) (D := D) (cI := cI) (cJ := cJ) (cZ := cZ) x1 0 (B_h.1 - 1) _ h
  refine k_callS C dX7_gate_8 hM gX7_gate_X7_in rfl sg_X7_in rfl (Nat.le_of_ble_eq_true rfl) ⟨⟨rfl, rfl⟩, by decide, by decide⟩ ⟨Nat.le_refl 0, Nat.le_refl 0⟩ [] [0, 1, 2, 3, 4, 5, 6, 7, 8, 9, 10, 11, 12, 13, 14, 15, 16] rfl rfl rfl rfl (by decide) 0 0 ⟨rfl, rfl⟩ 11 rfl (fun v w1 hq8 => ?_)
  obtain ⟨r8, rfl, rfl, hb8, h⟩ := hq8
  refine k_perm C [0, 1, 2, 3, 4, 5, 6, 7, 8, 9, 10, 11, 12, 13, 14, 15, 16] [.int (iI r8)] ((wdM cI cJ cZ qh B_h P_h N_h L_h E_h V_h G_h D_h O_h Z_h R_h I_h)) rfl rfl rfl ?_
  obtain ⟨ht, hf⟩ := h
  refine k_if_ne C dX7_gate_11 (by rcases hb8 with rfl | rfl <;> decide) 16 14 (by decide) rfl (fun hc11 => ?_) (fun hc11 => ?_)
  · have h := ht hc11; clear ht hf
    refine k_iload_n C dX7_gate_16 2 rfl rfl 17 rfl ?_
    refine k_iconst C dX7_gate_17 18 rfl ?_
    refine k_bipush C dX7_gate_18 (by decide) 20 rfl ?_
    have hM := c_X7_in (l := l) (D := D) (cI := cI) (cJ := cJ) (cZ := cZ) x2 0 9 _ h
    refine k_callS C dX7_gate_20 hM gX7_gate_X7_in rfl sg_X7_in rfl (Nat.le_of_ble_eq_true rfl) ⟨⟨rfl, rfl⟩, by decide, by decide⟩ ⟨Nat.le_refl 0, Nat.le_refl 0⟩ [] [0, 1, 2, 3, 4, 5, 6, 7, 8, 9, 10, 11, 12, 13, 14, 15, 16] rfl rfl rfl rfl (by decide) 0 0 ⟨rfl, rfl⟩ 23 rfl (fun v w1 hq20 => ?_)
    obtain ⟨r20, rfl, rfl, hb20, h⟩ := hq20
    refine k_perm C [0, 1, 2, 3, 4, 5, 6, 7, 8, 9, 10, 11, 12, 13, 14, 15, 16] [.int (iI r20)] ((wdM cI cJ cZ qh B_h P_h N_h L_h E_h V_h G_h D_h O_h Z_h R_h I_h)) rfl rfl rfl ?_
    obtain ⟨ht, hf⟩ := h
    refine k_if_eq C dX7_gate_23 (by rcases hb20 with rfl | rfl <;> decide) 35 26 (by decide) rfl (fun hc23 => ?_) (fun hc23 => ?_)
    · have h := ht hc23; clear ht hf
      refine k_bipush C dX7_gate_35 (by decide) 37 rfl ?_
      exact k_iret C dX7_gate_37 ⟨(-2), N_h, L_h, rfl, rfl, h⟩
    · have h := hf hc23; clear ht hf
      refine k_iload_n C dX7_gate_26 3 rfl rfl 27 rfl ?_
      refine k_iconst C dX7_gate_27 28 rfl ?_
      refine k_iconst C dX7_gate_28 29 rfl ?_
      have hM := c_X7_in (l := l) (D := D) (cI := cI) (cJ := cJ) (cZ := cZ) x3 1 3 _ h
      refine k_callS C dX7_gate_29 hM gX7_gate_X7_in rfl sg_X7_in rfl (Nat.le_of_ble_eq_true rfl) ⟨⟨rfl, rfl⟩, by decide, by decide⟩ ⟨Nat.le_refl 0, Nat.le_refl 0⟩ [] [0, 1, 2, 3, 4, 5, 6, 7, 8, 9, 10, 11, 12, 13, 14, 15, 16] rfl rfl rfl rfl (by decide) 0 0 ⟨rfl, rfl⟩ 32 rfl (fun v w1 hq29 => ?_)
      obtain ⟨r29, rfl, rfl, hb29, h⟩ := hq29
      refine k_perm C [0, 1, 2, 3, 4, 5, 6, 7, 8, 9, 10, 11, 12, 13, 14, 15, 16] [.int (iI r29)] ((wdM cI cJ cZ qh B_h P_h N_h L_h E_h V_h G_h D_h O_h Z_h R_h I_h)) rfl rfl rfl ?_
      obtain ⟨ht, hf⟩ := h
      refine k_if_ne C dX7_gate_32 (by rcases hb29 with rfl | rfl <;> decide) 38 35 (by decide) rfl (fun hc32 => ?_) (fun hc32 => ?_)
      · have h := ht hc32; clear ht hf
        refine k_iconst C dX7_gate_38 39 rfl ?_
        refine k_istore C dX7_gate_39 (by decide) [(4, .int (iI 0)), (0, .ref (qh 0)), (1, .int (iI x1)), (2, .int (iI x2)), (3, .int (iI x3))] rfl 41 rfl ?_
        refine k_iconst C dX7_gate_41 42 rfl ?_
        refine k_istore C dX7_gate_42 (by decide) [(5, .int (iI 0)), (4, .int (iI 0)), (0, .ref (qh 0)), (1, .int (iI x1)), (2, .int (iI x2)), (3, .int (iI x3))] rfl 44 rfl ?_
        refine k_lv C [2, 3, 4, 5, 1, 0] [(0, .ref (qh 0)), (1, .int (iI x1)), (2, .int (iI x2)), (3, .int (iI x3)), (4, .int (iI 0)), (5, .int (iI 0))] rfl ?_
        obtain ⟨m44, h⟩ := h
        refine w_X7_gate_44 C m44 x1 x2 x3 0 0 N_h L_h h (fun x4 N_h L_h h => ?_)
        · refine k_iload C dX7_gate_130 0 rfl 132 rfl ?_
          exact k_iret C dX7_gate_132 ⟨x4, N_h, L_h, rfl, rfl, h⟩
      · have h := hf hc32; clear ht hf
        refine k_bipush C dX7_gate_35 (by decide) 37 rfl ?_
        exact k_iret C dX7_gate_37 ⟨(-2), N_h, L_h, rfl, rfl, h⟩
  · have h := hf hc11; clear ht hf
    refine k_iconst C dX7_gate_14 15 rfl ?_
    exact k_iret C dX7_gate_15 ⟨(-1), N_h, L_h, rfl, rfl, h⟩

/-! X7_arePuts -/
abbrev rm_X7_arePuts : Room := { frames := 2, cells := 0, slots := 0, locals := 44 }
theorem sg_X7_arePuts : yX7_arePuts.cls ≠ "java/lang/invoke/MethodHandle" ∧ yX7_arePuts.cls ≠ "java/lang/invoke/VarHandle" ∧ (parseMethodDescriptor yX7_arePuts.desc).map (fun d => d.parameters.length) = some 0 := by decide +kernel
theorem hin_X7_arePuts_7 : ∀ w ∈ wsX70, w ∈ wsX7_arePuts := fun _ h => List.mem_cons_of_mem _ (List.mem_append_right _ h)
def rp_X7_arePuts (cI cJ cZ : ClassId) (qh : Nat → Nat) (B_h : gMB) (P_h : gMP) (N_h : gMN) (L_h : gML) (E_h : gME) (V_h : gMV) (G_h : gMG) (D_h : gMD) (O_h : gMO) (Z_h : gMZ) (R_h : gMR) (I_h : gMI) (Q : Int → Prop) : Option Value → va_W → Prop := fun v w1 => ∃ (r : Int), v = some (.int (iI r)) ∧ w1 = (wdM cI cJ cZ qh B_h P_h N_h L_h E_h V_h G_h D_h O_h Z_h R_h I_h) ∧ (r = 0 ∨ r = 1) ∧ Q r
def wp_X7_arePuts_63 (D_h : gMD) (K_17 : Int → Int → Int → Prop)  (Q : Int → Prop) (x1 : Int) (x3 : Int) (s0 : Int) : Prop :=
    (0 ≤ x3 ∧ x3 < 60) ∧ K_17 (ior x1 (ishl 1 ((D_h.2 x3) - 65))) s0 (x3 + 2)
def wp_X7_arePuts_17 (D_h : gMD) (K_84 : Int → Prop)  (Q : Int → Prop) : Nat → Int → Int → Int → Prop
  | 0, _, _, _ => False
  | n17 + 1, x1, x2, x3 =>
    rI x3 ∧ rI D_h.1 ∧ ((D_h.1 ≤ x3 → K_84 x2) ∧ (¬ (D_h.1 ≤ x3) → rI x2 ∧ ((x2 = 0 → K_84 x2) ∧ (¬ (x2 = 0) → (0 ≤ (x3 + 1) ∧ (x3 + 1) < 60) ∧ rI (D_h.2 (x3 + 1)) ∧ (((D_h.2 (x3 + 1)) = 45 → wp_X7_arePuts_63 D_h (fun (x1 : Int) (x2 : Int) (x3 : Int) => wp_X7_arePuts_17 D_h K_84 Q n17 x1 x2 x3) Q x1 x3 0) ∧ (¬ ((D_h.2 (x3 + 1)) = 45) → (0 ≤ x3 ∧ x3 < 60) ∧ wp_X7_has x1 ((D_h.2 x3) - 65) (fun (r52 : Int) => ((¬ r52 = 0 → wp_X7_arePuts_63 D_h (fun (x1 : Int) (x2 : Int) (x3 : Int) => wp_X7_arePuts_17 D_h K_84 Q n17 x1 x2 x3) Q x1 x3 0) ∧ (¬ (¬ r52 = 0) → wp_X7_arePuts_63 D_h (fun (x1 : Int) (x2 : Int) (x3 : Int) => wp_X7_arePuts_17 D_h K_84 Q n17 x1 x2 x3) Q x1 x3 1)))))))))
def wp_X7_arePuts (B_h : gMB) (D_h : gMD) (Q : Int → Prop) : Prop :=
    wp_X7_faultOf B_h D_h (fun (r3 : Int) => rI r3 ∧ ((0 ≤ r3 → ∃ m17, wp_X7_arePuts_17 D_h (fun (x2 : Int) => (x2 = 0 ∨ x2 = 1) ∧ Q x2) Q m17 0 0 0) ∧ (¬ (0 ≤ r3) → ∃ m17, wp_X7_arePuts_17 D_h (fun (x2 : Int) => (x2 = 0 ∨ x2 = 1) ∧ Q x2) Q m17 0 1 0)))
set_option maxHeartbeats 4000000 in
set_option maxRecDepth 20000 in
theorem w_X7_arePuts_63 {l : Launch} {D : va_G} {cI cJ cZ : ClassId} {A : Nat → Prop} {K : KT} {qh : Nat → Nat} {B_h : gMB} {P_h : gMP} {N_h : gMN} {L_h : gML} {E_h : gME} {V_h : gMV} {G_h : gMG} {D_h : gMD} {O_h : gMO} {Z_h : gMZ} {R_h : gMR} {I_h : gMI} {Q : Int → Prop} {K_17 : Int → Int → Int → Prop} (C : KC cX7_arePuts yX7_arePuts.cls wsX7_arePuts rm_X7_arePuts 4 D (kT cI cJ cZ) A l false (rp_X7_arePuts cI cJ cZ qh B_h P_h N_h L_h E_h V_h G_h D_h O_h Z_h R_h I_h Q) 0 0 K) : ∀ (x1 : Int) (x3 : Int) (s0 : Int), wp_X7_arePuts_63 D_h K_17 Q x1 x3 s0 → (∀ (x1 : Int) (x2 : Int) (x3 : Int), K_17 x1 x2 x3 → K 0 0 17 [(0, .ref (qh 0)), (1, .int (iI x1)), (2, .int (iI x2)), (3, .int (iI x3))] [] ((wdM cI cJ cZ qh B_h P_h N_h L_h E_h V_h G_h D_h O_h Z_h R_h I_h))) → K 0 0 63 [(0, .ref (qh 0)), (1, .int (iI x1)), (3, .int (iI x3))] [.int (iI s0)] ((wdM cI cJ cZ qh B_h P_h N_h L_h E_h V_h G_h D_h O_h Z_h R_h I_h)) := by
  intro x1 x3 s0 h hK_17
  refine k_istore_n C dX7_arePuts_63 rfl (by decide) [(2, .int (iI s0)), (0, .ref (qh 0)), (1, .int (iI x1)), (3, .int (iI x3))] rfl 64 rfl ?_
  refine k_iload_n C dX7_arePuts_64 2 rfl rfl 65 rfl ?_
  refine k_iconst C dX7_arePuts_65 66 rfl ?_
  refine k_aload_n C dX7_arePuts_66 1 rfl rfl 67 rfl ?_
  refine k_get C dX7_arePuts_67 0 rfl (ci := 7) rfl hin_X7_arePuts_7 10 (by decide) (List.mem_of_getElem? (i := 2) rfl) rfl 70 rfl ?_
  refine k_iload_n C dX7_arePuts_70 3 rfl rfl 71 rfl ?_
  obtain ⟨hi71, h⟩ := h
  refine k_iaload C dX7_arePuts_71 7 0 rfl rfl (by decide) hi71 72 rfl ?_
  refine k_bipush C dX7_arePuts_72 (by decide) 74 rfl ?_
  refine k_isub C dX7_arePuts_74 75 rfl ?_
  refine k_ishl C dX7_arePuts_75 76 rfl ?_
  refine k_ior C dX7_arePuts_76 77 rfl ?_
  refine k_istore_n C dX7_arePuts_77 rfl (by decide) [(1, .int (iI (ior x1 (ishl 1 ((D_h.2 x3) - 65))))), (2, .int (iI s0)), (0, .ref (qh 0)), (3, .int (iI x3))] rfl 78 rfl ?_
  refine k_iinc (j := 3) C dX7_arePuts_78 rfl (by decide) [(3, .int (iI (x3 + 2))), (1, .int (iI (ior x1 (ishl 1 ((D_h.2 x3) - 65))))), (2, .int (iI s0)), (0, .ref (qh 0))] rfl 81 rfl ?_
  refine k_goto C dX7_arePuts_81 17 (by decide) ?_
  refine k_lv C [3, 1, 2, 0] [(0, .ref (qh 0)), (1, .int (iI (ior x1 (ishl 1 ((D_h.2 x3) - 65))))), (2, .int (iI s0)), (3, .int (iI (x3 + 2)))] rfl ?_
  exact hK_17 (ior x1 (ishl 1 ((D_h.2 x3) - 65))) s0 (x3 + 2) h
set_option maxHeartbeats 4000000 in
set_option maxRecDepth 20000 in
theorem w_X7_arePuts_17 {l : Launch} {D : va_G} {cI cJ cZ : ClassId} {A : Nat → Prop} {K : KT} {qh : Nat → Nat} {B_h : gMB} {P_h : gMP} {N_h : gMN} {L_h : gML} {E_h : gME} {V_h : gMV} {G_h : gMG} {D_h : gMD} {O_h : gMO} {Z_h : gMZ} {R_h : gMR} {I_h : gMI} {Q : Int → Prop} {K_84 : Int → Prop} (C : KC cX7_arePuts yX7_arePuts.cls wsX7_arePuts rm_X7_arePuts 4 D (kT cI cJ cZ) A l false (rp_X7_arePuts cI cJ cZ qh B_h P_h N_h L_h E_h V_h G_h D_h O_h Z_h R_h I_h Q) 0 0 K) : ∀ (n : Nat) (x1 : Int) (x2 : Int) (x3 : Int), wp_X7_arePuts_17 D_h K_84 Q n x1 x2 x3 → (∀ (x2 : Int), K_84 x2 → K 0 0 84 [(2, .int (iI x2))] [] ((wdM cI cJ cZ qh B_h P_h N_h L_h E_h V_h G_h D_h O_h Z_h R_h I_h))) → K 0 0 17 [(0, .ref (qh 0)), (1, .int (iI x1)), (2, .int (iI x2)), (3, .int (iI x3))] [] ((wdM cI cJ cZ qh B_h P_h N_h L_h E_h V_h G_h D_h O_h Z_h R_h I_h)) := by
  intro n
  induction n with
  | zero => intro x1 x2 x3 h; exact h.elim
  | succ n ih =>
    intro x1 x2 x3 h hK_84
    refine k_iload_n C dX7_arePuts_17 3 rfl rfl 18 rfl ?_
    refine k_aload_n C dX7_arePuts_18 0 rfl rfl 19 rfl ?_
    refine k_get C dX7_arePuts_19 0 rfl (ci := 7) rfl hin_X7_arePuts_7 9 (by decide) (List.mem_of_getElem? (i := 1) rfl) rfl 22 rfl ?_
    obtain ⟨hr22a, hr22b, h⟩ := h
    obtain ⟨ht, hf⟩ := h
    refine k_icmp_ge C dX7_arePuts_22 ⟨hr22a, hr22b⟩ 84 25 (by decide) rfl (fun hc22 => ?_) (fun hc22 => ?_)
    · have h := ht hc22; clear ht hf
      refine k_lv C [2] [(2, .int (iI x2))] rfl ?_
      exact hK_84 x2 h
    · have h := hf hc22; clear ht hf
      refine k_iload_n C dX7_arePuts_25 2 rfl rfl 26 rfl ?_
      obtain ⟨hr26a, h⟩ := h
      obtain ⟨ht, hf⟩ := h
      refine k_if_eq C dX7_arePuts_26 hr26a 84 29 (by decide) rfl (fun hc26 => ?_) (fun hc26 => ?_)
      · have h := ht hc26; clear ht hf
        refine k_lv C [2] [(2, .int (iI x2))] rfl ?_
        exact hK_84 x2 h
      · have h := hf hc26; clear ht hf
        refine k_aload_n C dX7_arePuts_29 0 rfl rfl 30 rfl ?_
        refine k_get C dX7_arePuts_30 0 rfl (ci := 7) rfl hin_X7_arePuts_7 10 (by decide) (List.mem_of_getElem? (i := 2) rfl) rfl 33 rfl ?_
        refine k_iload_n C dX7_arePuts_33 3 rfl rfl 34 rfl ?_
        refine k_iconst C dX7_arePuts_34 35 rfl ?_
        refine k_iadd C dX7_arePuts_35 36 rfl ?_
        obtain ⟨hi36, h⟩ := h
        refine k_iaload C dX7_arePuts_36 7 0 rfl rfl (by decide) hi36 37 rfl ?_
        refine k_bipush C dX7_arePuts_37 (by decide) 39 rfl ?_
        obtain ⟨hr39a, h⟩ := h
        obtain ⟨ht, hf⟩ := h
        refine k_icmp_eq C dX7_arePuts_39 ⟨hr39a, (by decide)⟩ 62 42 (by decide) rfl (fun hc39 => ?_) (fun hc39 => ?_)
        · have h := ht hc39; clear ht hf
          refine k_iconst C dX7_arePuts_62 63 rfl ?_
          refine k_lv C [0, 1, 3] [(0, .ref (qh 0)), (1, .int (iI x1)), (3, .int (iI x3))] rfl ?_
          refine w_X7_arePuts_63 C x1 x3 0 h (fun x1 x2 x3 h => ?_)
          · exact ih x1 x2 x3 h hK_84
        · have h := hf hc39; clear ht hf
          refine k_iload_n C dX7_arePuts_42 1 rfl rfl 43 rfl ?_
          refine k_aload_n C dX7_arePuts_43 0 rfl rfl 44 rfl ?_
          refine k_get C dX7_arePuts_44 0 rfl (ci := 7) rfl hin_X7_arePuts_7 10 (by decide) (List.mem_of_getElem? (i := 2) rfl) rfl 47 rfl ?_
          refine k_iload_n C dX7_arePuts_47 3 rfl rfl 48 rfl ?_
          obtain ⟨hi48, h⟩ := h
          refine k_iaload C dX7_arePuts_48 7 0 rfl rfl (by decide) hi48 49 rfl ?_
          refine k_bipush C dX7_arePuts_49 (by decide) 51 rfl ?_
          refine k_isub C dX7_arePuts_51 52 rfl ?_
          have hM := c_X7_has (l := l) (D := D) (cI := cI) (cJ := cJ) (cZ := cZ) x1 ((D_h.2 x3) - 65) _ h
          refine k_callS C dX7_arePuts_52 hM gX7_arePuts_X7_has rfl sg_X7_has rfl (Nat.le_of_ble_eq_true rfl) ⟨⟨rfl, rfl⟩, by decide, by decide⟩ ⟨Nat.le_refl 0, Nat.le_refl 0⟩ [] [0, 1, 2, 3, 4, 5, 6, 7, 8, 9, 10, 11, 12, 13, 14, 15, 16] rfl rfl rfl rfl (by decide) 0 0 ⟨rfl, rfl⟩ 55 rfl (fun v w1 hq52 => ?_)
          obtain ⟨r52, rfl, rfl, hb52, h⟩ := hq52
          refine k_perm C [0, 1, 2, 3, 4, 5, 6, 7, 8, 9, 10, 11, 12, 13, 14, 15, 16] [.int (iI r52)] ((wdM cI cJ cZ qh B_h P_h N_h L_h E_h V_h G_h D_h O_h Z_h R_h I_h)) rfl rfl rfl ?_
          obtain ⟨ht, hf⟩ := h
          refine k_if_ne C dX7_arePuts_55 (by rcases hb52 with rfl | rfl <;> decide) 62 58 (by decide) rfl (fun hc55 => ?_) (fun hc55 => ?_)
          · have h := ht hc55; clear ht hf
            refine k_iconst C dX7_arePuts_62 63 rfl ?_
            refine k_lv C [0, 1, 3] [(0, .ref (qh 0)), (1, .int (iI x1)), (3, .int (iI x3))] rfl ?_
            refine w_X7_arePuts_63 C x1 x3 0 h (fun x1 x2 x3 h => ?_)
            · exact ih x1 x2 x3 h hK_84
          · have h := hf hc55; clear ht hf
            refine k_iconst C dX7_arePuts_58 59 rfl ?_
            refine k_goto C dX7_arePuts_59 63 (by decide) ?_
            refine k_lv C [0, 1, 3] [(0, .ref (qh 0)), (1, .int (iI x1)), (3, .int (iI x3))] rfl ?_
            refine w_X7_arePuts_63 C x1 x3 1 h (fun x1 x2 x3 h => ?_)
            · exact ih x1 x2 x3 h hK_84
set_option maxHeartbeats 4000000 in
set_option maxRecDepth 20000 in
theorem c_X7_arePuts {l : Launch} {D : va_G} {cI cJ cZ : ClassId} (qh : Nat → Nat) (B_h : gMB) (P_h : gMP) (N_h : gMN) (L_h : gML) (E_h : gME) (V_h : gMV) (G_h : gMG) (D_h : gMD) (O_h : gMO) (Z_h : gMZ) (R_h : gMR) (I_h : gMI) (Q : Int → Prop) (h : wp_X7_arePuts B_h D_h Q) : KM l D (kT cI cJ cZ) 0 0 yX7_arePuts wsX7_arePuts rm_X7_arePuts [.ref (qh 0)] ((wdM cI cJ cZ qh B_h P_h N_h L_h E_h V_h G_h D_h O_h Z_h R_h I_h)) (rp_X7_arePuts cI cJ cZ qh B_h P_h N_h L_h E_h V_h G_h D_h O_h Z_h R_h I_h Q) := by
  refine KM_intro (lv := [(0, .ref (qh 0))]) false rfl (by decide) (Nat.le_of_ble_eq_true rfl) rfl (fun h => absurd h (by decide)) (fun v ws hq => by obtain ⟨r, rfl, rfl, hb, _⟩ := hq; exact Or.inr (Or.inr (Or.inl ⟨rfl, by rcases hb with rfl | rfl; exact Or.inl rfl; exact Or.inr rfl⟩))) (fun A K C => ?_)
  refine k_iconst C dX7_arePuts_0 1 rfl ?_
  refine k_istore_n C dX7_arePuts_1 rfl (by decide) [(1, .int (iI 0)), (0, .ref (qh 0))] rfl 2 rfl ?_
  refine k_aload_n C dX7_arePuts_2 1 rfl rfl 3 rfl ?_
  have hM := c_X7_faultOf (l := l) (D := D) (cI := cI) (cJ := cJ) (cZ := cZ) qh B_h P_h N_h L_h E_h V_h G_h D_h O_h Z_h R_h I_h _ h
  refine k_callV C dX7_arePuts_3 hM gX7_arePuts_X7_faultOf rfl sg_X7_faultOf 7 rfl rfl rfl (Nat.le_of_ble_eq_true rfl) ⟨⟨rfl, rfl⟩, by decide, by decide⟩ ⟨Nat.le_refl 0, Nat.le_refl 0⟩ [0, 1, 2, 3, 4, 5, 6, 7, 8, 9, 10, 11, 12, 13, 14, 15, 16] [] rfl rfl rfl rfl (by decide) 0 0 ⟨rfl, rfl⟩ 6 rfl (fun v w1 hq3 => ?_)
  obtain ⟨r3, rfl, rfl, h⟩ := hq3
  refine k_perm C [0, 1, 2, 3, 4, 5, 6, 7, 8, 9, 10, 11, 12, 13, 14, 15, 16] [.int (iI r3)] ((wdM cI cJ cZ qh B_h P_h N_h L_h E_h V_h G_h D_h O_h Z_h R_h I_h)) rfl rfl rfl ?_
  obtain ⟨hr6a, h⟩ := h
  obtain ⟨ht, hf⟩ := h
  refine k_if_ge C dX7_arePuts_6 hr6a 13 9 (by decide) rfl (fun hc6 => ?_) (fun hc6 => ?_)
  · have h := ht hc6; clear ht hf
    refine k_iconst C dX7_arePuts_13 14 rfl ?_
    refine k_istore_n C dX7_arePuts_14 rfl (by decide) [(2, .int (iI 0)), (1, .int (iI 0)), (0, .ref (qh 0))] rfl 15 rfl ?_
    refine k_iconst C dX7_arePuts_15 16 rfl ?_
    refine k_istore_n C dX7_arePuts_16 rfl (by decide) [(3, .int (iI 0)), (2, .int (iI 0)), (1, .int (iI 0)), (0, .ref (qh 0))] rfl 17 rfl ?_
    refine k_lv C [3, 2, 1, 0] [(0, .ref (qh 0)), (1, .int (iI 0)), (2, .int (iI 0)), (3, .int (iI 0))] rfl ?_
    obtain ⟨m17, h⟩ := h
    refine w_X7_arePuts_17 C m17 0 0 0 h (fun x2 h => ?_)
    · refine k_iload_n C dX7_arePuts_84 0 rfl rfl 85 rfl ?_
      obtain ⟨hb85, h⟩ := h
      exact k_iret C dX7_arePuts_85 ⟨x2, rfl, rfl, hb85, h⟩
  · have h := hf hc6; clear ht hf
    refine k_iconst C dX7_arePuts_9 10 rfl ?_
    refine k_goto C dX7_arePuts_10 14 (by decide) ?_
    refine k_istore_n C dX7_arePuts_14 rfl (by decide) [(2, .int (iI 1)), (1, .int (iI 0)), (0, .ref (qh 0))] rfl 15 rfl ?_
    refine k_iconst C dX7_arePuts_15 16 rfl ?_
    refine k_istore_n C dX7_arePuts_16 rfl (by decide) [(3, .int (iI 0)), (2, .int (iI 1)), (1, .int (iI 0)), (0, .ref (qh 0))] rfl 17 rfl ?_
    refine k_lv C [3, 2, 1, 0] [(0, .ref (qh 0)), (1, .int (iI 0)), (2, .int (iI 1)), (3, .int (iI 0))] rfl ?_
    obtain ⟨m17, h⟩ := h
    refine w_X7_arePuts_17 C m17 0 1 0 h (fun x2 h => ?_)
    · refine k_iload_n C dX7_arePuts_84 0 rfl rfl 85 rfl ?_
      obtain ⟨hb85, h⟩ := h
      exact k_iret C dX7_arePuts_85 ⟨x2, rfl, rfl, hb85, h⟩

/-! X7_columnTold -/
abbrev rm_X7_columnTold : Room := { frames := 0, cells := 0, slots := 0, locals := 0 }
theorem sg_X7_columnTold : yX7_columnTold.cls ≠ "java/lang/invoke/MethodHandle" ∧ yX7_columnTold.cls ≠ "java/lang/invoke/VarHandle" ∧ (parseMethodDescriptor yX7_columnTold.desc).map (fun d => d.parameters.length) = some 1 := by decide +kernel
theorem hin_X7_columnTold_7 : ∀ w ∈ wsX70, w ∈ wsX7_columnTold := fun _ h => List.mem_cons_of_mem _ (List.mem_append_right _ h)
def rp_X7_columnTold (cI cJ cZ : ClassId) (qh : Nat → Nat) (B_h : gMB) (P_h : gMP) (N_h : gMN) (L_h : gML) (E_h : gME) (V_h : gMV) (G_h : gMG) (D_h : gMD) (O_h : gMO) (Z_h : gMZ) (R_h : gMR) (I_h : gMI) (Q : Int → Prop) : Option Value → va_W → Prop := fun v w1 => ∃ (r : Int), v = some (.int (iI r)) ∧ w1 = (wdM cI cJ cZ qh B_h P_h N_h L_h E_h V_h G_h D_h O_h Z_h R_h I_h) ∧ Q r
def wp_X7_columnTold_4 (D_h : gMD) (K_47 : Int → Prop)  (Q : Int → Prop) : Nat → Int → Int → Int → Prop
  | 0, _, _, _ => False
  | n4 + 1, x1, x2, x3 =>
    rI x3 ∧ rI D_h.1 ∧ ((D_h.1 ≤ x3 → K_47 x2) ∧ (¬ (D_h.1 ≤ x3) → (0 ≤ x3 ∧ x3 < 60) ∧ rI ((D_h.2 x3) - 65) ∧ rI x1 ∧ ((¬ ((D_h.2 x3) - 65) = x1 → wp_X7_columnTold_4 D_h K_47 Q n4 x1 x2 (x3 + 2)) ∧ (¬ (¬ ((D_h.2 x3) - 65) = x1) → (0 ≤ (x3 + 1) ∧ (x3 + 1) < 60) ∧ wp_X7_columnTold_4 D_h K_47 Q n4 x1 ((D_h.2 (x3 + 1)) - 48) (x3 + 2)))))
def wp_X7_columnTold (D_h : gMD) (x1 : Int) (Q : Int → Prop) : Prop :=
    ∃ m4, wp_X7_columnTold_4 D_h (fun (x2 : Int) => Q x2) Q m4 x1 0 0
set_option maxHeartbeats 4000000 in
set_option maxRecDepth 20000 in
theorem w_X7_columnTold_4 {l : Launch} {D : va_G} {cI cJ cZ : ClassId} {A : Nat → Prop} {K : KT} {qh : Nat → Nat} {B_h : gMB} {P_h : gMP} {N_h : gMN} {L_h : gML} {E_h : gME} {V_h : gMV} {G_h : gMG} {D_h : gMD} {O_h : gMO} {Z_h : gMZ} {R_h : gMR} {I_h : gMI} {Q : Int → Prop} {K_47 : Int → Prop} (C : KC cX7_columnTold yX7_columnTold.cls wsX7_columnTold rm_X7_columnTold 4 D (kT cI cJ cZ) A l false (rp_X7_columnTold cI cJ cZ qh B_h P_h N_h L_h E_h V_h G_h D_h O_h Z_h R_h I_h Q) 0 0 K) : ∀ (n : Nat) (x1 : Int) (x2 : Int) (x3 : Int), wp_X7_columnTold_4 D_h K_47 Q n x1 x2 x3 → (∀ (x2 : Int), K_47 x2 → K 0 0 47 [(2, .int (iI x2))] [] ((wdM cI cJ cZ qh B_h P_h N_h L_h E_h V_h G_h D_h O_h Z_h R_h I_h))) → K 0 0 4 [(0, .ref (qh 0)), (1, .int (iI x1)), (2, .int (iI x2)), (3, .int (iI x3))] [] ((wdM cI cJ cZ qh B_h P_h N_h L_h E_h V_h G_h D_h O_h Z_h R_h I_h)) := by
  intro n
  induction n with
  | zero => intro x1 x2 x3 h; exact h.elim
  | succ n ih =>
    intro x1 x2 x3 h hK_47
    refine k_iload_n C dX7_columnTold_4 3 rfl rfl 5 rfl ?_
    refine k_aload_n C dX7_columnTold_5 0 rfl rfl 6 rfl ?_
    refine k_get C dX7_columnTold_6 0 rfl (ci := 7) rfl hin_X7_columnTold_7 9 (by decide) (List.mem_of_getElem? (i := 1) rfl) rfl 9 rfl ?_
    obtain ⟨hr9a, hr9b, h⟩ := h
    obtain ⟨ht, hf⟩ := h
    refine k_icmp_ge C dX7_columnTold_9 ⟨hr9a, hr9b⟩ 47 12 (by decide) rfl (fun hc9 => ?_) (fun hc9 => ?_)
    · have h := ht hc9; clear ht hf
      refine k_lv C [2] [(2, .int (iI x2))] rfl ?_
      exact hK_47 x2 h
    · have h := hf hc9; clear ht hf
      refine k_aload_n C dX7_columnTold_12 0 rfl rfl 13 rfl ?_
      refine k_get C dX7_columnTold_13 0 rfl (ci := 7) rfl hin_X7_columnTold_7 10 (by decide) (List.mem_of_getElem? (i := 2) rfl) rfl 16 rfl ?_
      refine k_iload_n C dX7_columnTold_16 3 rfl rfl 17 rfl ?_
      obtain ⟨hi17, h⟩ := h
      refine k_iaload C dX7_columnTold_17 7 0 rfl rfl (by decide) hi17 18 rfl ?_
      refine k_bipush C dX7_columnTold_18 (by decide) 20 rfl ?_
      refine k_isub C dX7_columnTold_20 21 rfl ?_
      refine k_iload_n C dX7_columnTold_21 1 rfl rfl 22 rfl ?_
      obtain ⟨hr22a, hr22b, h⟩ := h
      obtain ⟨ht, hf⟩ := h
      refine k_icmp_ne C dX7_columnTold_22 ⟨hr22a, hr22b⟩ 39 25 (by decide) rfl (fun hc22 => ?_) (fun hc22 => ?_)
      · have h := ht hc22; clear ht hf
        refine k_iload_n C dX7_columnTold_39 2 rfl rfl 40 rfl ?_
        refine k_istore_n C dX7_columnTold_40 rfl (by decide) [(2, .int (iI x2)), (0, .ref (qh 0)), (1, .int (iI x1)), (3, .int (iI x3))] rfl 41 rfl ?_
        refine k_iinc (j := 3) C dX7_columnTold_41 rfl (by decide) [(3, .int (iI (x3 + 2))), (2, .int (iI x2)), (0, .ref (qh 0)), (1, .int (iI x1))] rfl 44 rfl ?_
        refine k_goto C dX7_columnTold_44 4 (by decide) ?_
        refine k_lv C [2, 3, 1, 0] [(0, .ref (qh 0)), (1, .int (iI x1)), (2, .int (iI x2)), (3, .int (iI (x3 + 2)))] rfl ?_
        exact ih x1 x2 (x3 + 2) h hK_47
      · have h := hf hc22; clear ht hf
        refine k_aload_n C dX7_columnTold_25 0 rfl rfl 26 rfl ?_
        refine k_get C dX7_columnTold_26 0 rfl (ci := 7) rfl hin_X7_columnTold_7 10 (by decide) (List.mem_of_getElem? (i := 2) rfl) rfl 29 rfl ?_
        refine k_iload_n C dX7_columnTold_29 3 rfl rfl 30 rfl ?_
        refine k_iconst C dX7_columnTold_30 31 rfl ?_
        refine k_iadd C dX7_columnTold_31 32 rfl ?_
        obtain ⟨hi32, h⟩ := h
        refine k_iaload C dX7_columnTold_32 7 0 rfl rfl (by decide) hi32 33 rfl ?_
        refine k_bipush C dX7_columnTold_33 (by decide) 35 rfl ?_
        refine k_isub C dX7_columnTold_35 36 rfl ?_
        refine k_goto C dX7_columnTold_36 40 (by decide) ?_
        refine k_istore_n C dX7_columnTold_40 rfl (by decide) [(2, .int (iI ((D_h.2 (x3 + 1)) - 48))), (0, .ref (qh 0)), (1, .int (iI x1)), (3, .int (iI x3))] rfl 41 rfl ?_
        refine k_iinc (j := 3) C dX7_columnTold_41 rfl (by decide) [(3, .int (iI (x3 + 2))), (2, .int (iI ((D_h.2 (x3 + 1)) - 48))), (0, .ref (qh 0)), (1, .int (iI x1))] rfl 44 rfl ?_
        refine k_goto C dX7_columnTold_44 4 (by decide) ?_
        refine k_lv C [2, 3, 1, 0] [(0, .ref (qh 0)), (1, .int (iI x1)), (2, .int (iI ((D_h.2 (x3 + 1)) - 48))), (3, .int (iI (x3 + 2)))] rfl ?_
        exact ih x1 ((D_h.2 (x3 + 1)) - 48) (x3 + 2) h hK_47
set_option maxHeartbeats 4000000 in
set_option maxRecDepth 20000 in
theorem c_X7_columnTold {l : Launch} {D : va_G} {cI cJ cZ : ClassId} (qh : Nat → Nat) (B_h : gMB) (P_h : gMP) (N_h : gMN) (L_h : gML) (E_h : gME) (V_h : gMV) (G_h : gMG) (D_h : gMD) (O_h : gMO) (Z_h : gMZ) (R_h : gMR) (I_h : gMI) (x1 : Int) (Q : Int → Prop) (h : wp_X7_columnTold D_h x1 Q) : KM l D (kT cI cJ cZ) 0 0 yX7_columnTold wsX7_columnTold rm_X7_columnTold [.ref (qh 0), .int (iI x1)] ((wdM cI cJ cZ qh B_h P_h N_h L_h E_h V_h G_h D_h O_h Z_h R_h I_h)) (rp_X7_columnTold cI cJ cZ qh B_h P_h N_h L_h E_h V_h G_h D_h O_h Z_h R_h I_h Q) := by
  refine KM_intro (lv := [(0, .ref (qh 0)), (1, .int (iI x1))]) false rfl (by decide) (Nat.le_of_ble_eq_true rfl) rfl (fun h => absurd h (by decide)) (fun v ws hq => by obtain ⟨r, rfl, rfl, _⟩ := hq; exact Or.inr (Or.inl ⟨rfl, _, rfl⟩)) (fun A K C => ?_)
  refine k_iconst C dX7_columnTold_0 1 rfl ?_
  refine k_istore_n C dX7_columnTold_1 rfl (by decide) [(2, .int (iI 0)), (0, .ref (qh 0)), (1, .int (iI x1))] rfl 2 rfl ?_
  refine k_iconst C dX7_columnTold_2 3 rfl ?_
  refine k_istore_n C dX7_columnTold_3 rfl (by decide) [(3, .int (iI 0)), (2, .int (iI 0)), (0, .ref (qh 0)), (1, .int (iI x1))] rfl 4 rfl ?_
  refine k_lv C [2, 3, 1, 0] [(0, .ref (qh 0)), (1, .int (iI x1)), (2, .int (iI 0)), (3, .int (iI 0))] rfl ?_
  obtain ⟨m4, h⟩ := h
  refine w_X7_columnTold_4 C m4 x1 0 0 h (fun x2 h => ?_)
  · refine k_iload_n C dX7_columnTold_47 0 rfl rfl 48 rfl ?_
    exact k_iret C dX7_columnTold_48 ⟨x2, rfl, rfl, h⟩
