/-! X7_fallsBy -/
abbrev rm_X7_fallsBy : Room := { frames := 5, cells := 0, slots := 0, locals := 116 }
theorem sg_X7_fallsBy : yX7_fallsBy.cls ≠ "java/lang/invoke/MethodHandle" ∧ yX7_fallsBy.cls ≠ "java/lang/invoke/VarHandle" ∧ (parseMethodDescriptor yX7_fallsBy.desc).map (fun d => d.parameters.length) = some 1 := by decide +kernel
def rp_X7_fallsBy (cI cJ cZ : ClassId) (qh : Nat → Nat) (B_h : gMB) (P_h : gMP) (E_h : gME) (V_h : gMV) (G_h : gMG) (D_h : gMD) (O_h : gMO) (Z_h : gMZ) (R_h : gMR) (I_h : gMI) (Q : Int → gMN → gML → Prop) : Option Value → va_W → Prop := fun v w1 => ∃ (r : Int) (N_h : gMN) (L_h : gML), v = some (.int (iI r)) ∧ w1 = (wdM cI cJ cZ qh B_h P_h N_h L_h E_h V_h G_h D_h O_h Z_h R_h I_h) ∧ Q r N_h L_h
def wp_X7_fallsBy_6 (K_31 : gMN → gML → Prop)  (Q : Int → gMN → gML → Prop) : Nat → Int → Int → gMN → gML → Prop
  | 0, _, _, _, _ => False
  | n6 + 1, x1, x2, N_h, L_h =>
    rI x2 ∧ ((10 ≤ x2 → K_31 N_h L_h) ∧ (¬ (10 ≤ x2) → wp_X7_has x1 x2 (fun (r14 : Int) => ((r14 = 0 → wp_X7_fallsBy_6 K_31 Q n6 x1 (x2 + 1) N_h L_h) ∧ (¬ (r14 = 0) → wp_X7_take N_h x2 (fun (N_h_22 : gMN) => wp_X7_fallsBy_6 K_31 Q n6 x1 (x2 + 1) N_h_22 L_h))))))
def wp_X7_fallsBy_48 (B_h : gMB) (K_99 : Int → Int → gMN → gML → Prop)  (Q : Int → gMN → gML → Prop) : Nat → Int → Int → Int → gMN → gML → Prop
  | 0, _, _, _, _, _ => False
  | n48 + 1, x2, x3, x4, N_h, L_h =>
    rI x4 ∧ ((10 ≤ x4 → K_99 x2 x3 N_h L_h) ∧ (¬ (10 ≤ x4) → wp_X7_isIn N_h x4 (fun (r59 : Int) => ((r59 = 0 → wp_X7_fallsBy_48 B_h K_99 Q n48 x2 (ior x3 0) (x4 + 1) N_h L_h) ∧ (¬ (r59 = 0) → wp_X7_stands B_h N_h x4 (fun (r68 : Int) => ((r68 = 0 → wp_X7_fallsBy_48 B_h K_99 Q n48 x2 (ior x3 (ishl 1 x4)) (x4 + 1) N_h L_h) ∧ (¬ (r68 = 0) → wp_X7_isOver B_h N_h L_h x4 (fun (r77 : Int) => ((r77 = 0 → wp_X7_fallsBy_48 B_h K_99 Q n48 x2 (ior x3 0) (x4 + 1) N_h L_h) ∧ (¬ (r77 = 0) → wp_X7_fallsBy_48 B_h K_99 Q n48 x2 (ior x3 (ishl 1 x4)) (x4 + 1) N_h L_h)))))))))))
def wp_X7_fallsBy_102 (K_130 : Int → Int → gMN → gML → Prop)  (Q : Int → gMN → gML → Prop) : Nat → Int → Int → Int → gMN → gML → Prop
  | 0, _, _, _, _, _ => False
  | n102 + 1, x2, x3, x4, N_h, L_h =>
    rI x4 ∧ ((10 ≤ x4 → K_130 x2 x3 N_h L_h) ∧ (¬ (10 ≤ x4) → wp_X7_has x3 x4 (fun (r112 : Int) => ((r112 = 0 → wp_X7_fallsBy_102 K_130 Q n102 x2 x3 (x4 + 1) N_h L_h) ∧ (¬ (r112 = 0) → wp_X7_take N_h x4 (fun (N_h_121 : gMN) => wp_X7_fallsBy_102 K_130 Q n102 x2 x3 (x4 + 1) N_h_121 L_h))))))
def wp_X7_fallsBy_35 (B_h : gMB) (K_137 : Int → gMN → gML → Prop)  (Q : Int → gMN → gML → Prop) : Nat → Int → Int → gMN → gML → Prop
  | 0, _, _, _, _ => False
  | n35 + 1, x2, x3, N_h, L_h =>
    rI x3 ∧ ((x3 = 0 → K_137 x2 N_h L_h) ∧ (¬ (x3 = 0) → wp_X7_layLoads B_h N_h L_h (fun (L_h_42 : gML) => ∃ m48, wp_X7_fallsBy_48 B_h (fun (x2 : Int) (x3 : Int) (N_h : gMN) (L_h : gML) => ∃ m102, wp_X7_fallsBy_102 (fun (x2 : Int) (x3 : Int) (N_h : gMN) (L_h : gML) => wp_X7_fallsBy_35 B_h K_137 Q n35 (ior x2 x3) x3 N_h L_h) Q m102 x2 x3 0 N_h L_h) Q m48 x2 0 0 N_h L_h_42)))
def wp_X7_fallsBy (B_h : gMB) (P_h : gMP) (N_h : gMN) (L_h : gML) (x1 : Int) (Q : Int → gMN → gML → Prop) : Prop :=
    wp_X7_asNow P_h N_h (fun (N_h_1 : gMN) => ∃ m6, wp_X7_fallsBy_6 (fun (N_h : gMN) (L_h : gML) => ∃ m35, wp_X7_fallsBy_35 B_h (fun (x2 : Int) (N_h : gMN) (L_h : gML) => Q x2 N_h L_h) Q m35 0 1 N_h L_h) Q m6 x1 0 N_h_1 L_h)
set_option maxHeartbeats 4000000 in
set_option maxRecDepth 20000 in
theorem w_X7_fallsBy_6 {l : Launch} {D : va_G} {cI cJ cZ : ClassId} {A : Nat → Prop} {K : KT} {qh : Nat → Nat} {B_h : gMB} {P_h : gMP} {E_h : gME} {V_h : gMV} {G_h : gMG} {D_h : gMD} {O_h : gMO} {Z_h : gMZ} {R_h : gMR} {I_h : gMI} {Q : Int → gMN → gML → Prop} {K_31 : gMN → gML → Prop} (C : KC cX7_fallsBy yX7_fallsBy.cls wsX7_fallsBy rm_X7_fallsBy 5 D (kT cI cJ cZ) A l false (rp_X7_fallsBy cI cJ cZ qh B_h P_h E_h V_h G_h D_h O_h Z_h R_h I_h Q) 0 0 K) : ∀ (n : Nat) (x1 : Int) (x2 : Int) (N_h : gMN) (L_h : gML), wp_X7_fallsBy_6 K_31 Q n x1 x2 N_h L_h → (∀ (N_h : gMN) (L_h : gML), K_31 N_h L_h → K 0 0 31 [(0, .ref (qh 0))] [] ((wdM cI cJ cZ qh B_h P_h N_h L_h E_h V_h G_h D_h O_h Z_h R_h I_h))) → K 0 0 6 [(0, .ref (qh 0)), (1, .int (iI x1)), (2, .int (iI x2))] [] ((wdM cI cJ cZ qh B_h P_h N_h L_h E_h V_h G_h D_h O_h Z_h R_h I_h)) := by
  intro n
  induction n with
  | zero => intro x1 x2 N_h L_h h; exact h.elim
  | succ n ih =>
    intro x1 x2 N_h L_h h hK_31
    refine k_iload_n C dX7_fallsBy_6 2 rfl rfl 7 rfl ?_
    refine k_bipush C dX7_fallsBy_7 (by decide) 9 rfl ?_
    obtain ⟨hr9a, h⟩ := h
    obtain ⟨ht, hf⟩ := h
    refine k_icmp_ge C dX7_fallsBy_9 ⟨hr9a, (by decide)⟩ 31 12 (by decide) rfl (fun hc9 => ?_) (fun hc9 => ?_)
    · have h := ht hc9; clear ht hf
      refine k_lv C [0] [(0, .ref (qh 0))] rfl ?_
      exact hK_31 N_h L_h h
    · have h := hf hc9; clear ht hf
      refine k_iload_n C dX7_fallsBy_12 1 rfl rfl 13 rfl ?_
      refine k_iload_n C dX7_fallsBy_13 2 rfl rfl 14 rfl ?_
      have hM := c_X7_has (l := l) (D := D) (cI := cI) (cJ := cJ) (cZ := cZ) x1 x2 _ h
      refine k_callS C dX7_fallsBy_14 hM gX7_fallsBy_X7_has rfl sg_X7_has rfl (Nat.le_of_ble_eq_true rfl) ⟨⟨rfl, rfl⟩, by decide, by decide⟩ ⟨Nat.le_refl 0, Nat.le_refl 0⟩ [] [0, 1, 2, 3, 4, 5, 6, 7, 8, 9, 10, 11, 12, 13, 14, 15, 16] rfl rfl rfl rfl (by decide) 0 0 ⟨rfl, rfl⟩ 17 rfl (fun v w1 hq14 => ?_)
      obtain ⟨r14, rfl, rfl, hb14, h⟩ := hq14
      refine k_perm C [0, 1, 2, 3, 4, 5, 6, 7, 8, 9, 10, 11, 12, 13, 14, 15, 16] [.int (iI r14)] ((wdM cI cJ cZ qh B_h P_h N_h L_h E_h V_h G_h D_h O_h Z_h R_h I_h)) rfl rfl rfl ?_
      obtain ⟨ht, hf⟩ := h
      refine k_if_eq C dX7_fallsBy_17 (by rcases hb14 with rfl | rfl <;> decide) 25 20 (by decide) rfl (fun hc17 => ?_) (fun hc17 => ?_)
      · have h := ht hc17; clear ht hf
        refine k_iinc (j := 2) C dX7_fallsBy_25 rfl (by decide) [(2, .int (iI (x2 + 1))), (0, .ref (qh 0)), (1, .int (iI x1))] rfl 28 rfl ?_
        refine k_goto C dX7_fallsBy_28 6 (by decide) ?_
        refine k_lv C [1, 2, 0] [(0, .ref (qh 0)), (1, .int (iI x1)), (2, .int (iI (x2 + 1)))] rfl ?_
        exact ih x1 (x2 + 1) N_h L_h h hK_31
      · have h := hf hc17; clear ht hf
        refine k_aload_n C dX7_fallsBy_20 0 rfl rfl 21 rfl ?_
        refine k_iload_n C dX7_fallsBy_21 2 rfl rfl 22 rfl ?_
        have hM := c_X7_take (l := l) (D := D) (cI := cI) (cJ := cJ) (cZ := cZ) qh B_h P_h N_h L_h E_h V_h G_h D_h O_h Z_h R_h I_h x2 _ h
        refine k_callV C dX7_fallsBy_22 hM gX7_fallsBy_X7_take rfl sg_X7_take 7 rfl rfl rfl (Nat.le_of_ble_eq_true rfl) ⟨⟨rfl, rfl⟩, by decide, by decide⟩ ⟨Nat.le_refl 0, Nat.le_refl 0⟩ [0, 1, 2, 3, 4, 5, 6, 7, 8, 9, 10, 11, 12, 13, 14, 15, 16] [] rfl rfl rfl rfl (by decide) 0 0 ⟨rfl, rfl⟩ 25 rfl (fun v w1 hq22 => ?_)
        obtain ⟨N_h_22, rfl, rfl, h⟩ := hq22
        refine k_perm C [0, 1, 2, 3, 4, 5, 6, 7, 8, 9, 10, 11, 12, 13, 14, 15, 16] [] ((wdM cI cJ cZ qh B_h P_h N_h_22 L_h E_h V_h G_h D_h O_h Z_h R_h I_h)) rfl rfl rfl ?_
        refine k_iinc (j := 2) C dX7_fallsBy_25 rfl (by decide) [(2, .int (iI (x2 + 1))), (0, .ref (qh 0)), (1, .int (iI x1))] rfl 28 rfl ?_
        refine k_goto C dX7_fallsBy_28 6 (by decide) ?_
        refine k_lv C [1, 2, 0] [(0, .ref (qh 0)), (1, .int (iI x1)), (2, .int (iI (x2 + 1)))] rfl ?_
        exact ih x1 (x2 + 1) N_h_22 L_h h hK_31
set_option maxHeartbeats 4000000 in
set_option maxRecDepth 20000 in
theorem w_X7_fallsBy_48 {l : Launch} {D : va_G} {cI cJ cZ : ClassId} {A : Nat → Prop} {K : KT} {qh : Nat → Nat} {B_h : gMB} {P_h : gMP} {E_h : gME} {V_h : gMV} {G_h : gMG} {D_h : gMD} {O_h : gMO} {Z_h : gMZ} {R_h : gMR} {I_h : gMI} {Q : Int → gMN → gML → Prop} {K_99 : Int → Int → gMN → gML → Prop} (C : KC cX7_fallsBy yX7_fallsBy.cls wsX7_fallsBy rm_X7_fallsBy 5 D (kT cI cJ cZ) A l false (rp_X7_fallsBy cI cJ cZ qh B_h P_h E_h V_h G_h D_h O_h Z_h R_h I_h Q) 0 0 K) : ∀ (n : Nat) (x2 : Int) (x3 : Int) (x4 : Int) (N_h : gMN) (L_h : gML), wp_X7_fallsBy_48 B_h K_99 Q n x2 x3 x4 N_h L_h → (∀ (x2 : Int) (x3 : Int) (N_h : gMN) (L_h : gML), K_99 x2 x3 N_h L_h → K 0 0 99 [(0, .ref (qh 0)), (2, .int (iI x2)), (3, .int (iI x3))] [] ((wdM cI cJ cZ qh B_h P_h N_h L_h E_h V_h G_h D_h O_h Z_h R_h I_h))) → K 0 0 48 [(0, .ref (qh 0)), (2, .int (iI x2)), (3, .int (iI x3)), (4, .int (iI x4))] [] ((wdM cI cJ cZ qh B_h P_h N_h L_h E_h V_h G_h D_h O_h Z_h R_h I_h)) := by
  intro n
  induction n with
  | zero => intro x2 x3 x4 N_h L_h h; exact h.elim
  | succ n ih =>
    intro x2 x3 x4 N_h L_h h hK_99
    refine k_iload C dX7_fallsBy_48 3 rfl 50 rfl ?_
    refine k_bipush C dX7_fallsBy_50 (by decide) 52 rfl ?_
    obtain ⟨hr52a, h⟩ := h
    obtain ⟨ht, hf⟩ := h
    refine k_icmp_ge C dX7_fallsBy_52 ⟨hr52a, (by decide)⟩ 99 55 (by decide) rfl (fun hc52 => ?_) (fun hc52 => ?_)
    · have h := ht hc52; clear ht hf
      refine k_lv C [0, 1, 2] [(0, .ref (qh 0)), (2, .int (iI x2)), (3, .int (iI x3))] rfl ?_
      exact hK_99 x2 x3 N_h L_h h
    · have h := hf hc52; clear ht hf
      refine k_iload_n C dX7_fallsBy_55 2 rfl rfl 56 rfl ?_
      refine k_aload_n C dX7_fallsBy_56 0 rfl rfl 57 rfl ?_
      refine k_iload C dX7_fallsBy_57 3 rfl 59 rfl ?_
      have hM := c_X7_isIn (l := l) (D := D) (cI := cI) (cJ := cJ) (cZ := cZ) qh B_h P_h N_h L_h E_h V_h G_h D_h O_h Z_h R_h I_h x4 _ h
      refine k_callV C dX7_fallsBy_59 hM gX7_fallsBy_X7_isIn rfl sg_X7_isIn 7 rfl rfl rfl (Nat.le_of_ble_eq_true rfl) ⟨⟨rfl, rfl⟩, by decide, by decide⟩ ⟨Nat.le_refl 0, Nat.le_refl 0⟩ [0, 1, 2, 3, 4, 5, 6, 7, 8, 9, 10, 11, 12, 13, 14, 15, 16] [] rfl rfl rfl rfl (by decide) 0 0 ⟨rfl, rfl⟩ 62 rfl (fun v w1 hq59 => ?_)
      obtain ⟨r59, rfl, rfl, hb59, h⟩ := hq59
      refine k_perm C [0, 1, 2, 3, 4, 5, 6, 7, 8, 9, 10, 11, 12, 13, 14, 15, 16] [.int (iI r59), .int (iI x3)] ((wdM cI cJ cZ qh B_h P_h N_h L_h E_h V_h G_h D_h O_h Z_h R_h I_h)) rfl rfl rfl ?_
      obtain ⟨ht, hf⟩ := h
      refine k_if_eq C dX7_fallsBy_62 (by rcases hb59 with rfl | rfl <;> decide) 90 65 (by decide) rfl (fun hc62 => ?_) (fun hc62 => ?_)
      · have h := ht hc62; clear ht hf
        refine k_iconst C dX7_fallsBy_90 91 rfl ?_
        refine k_ior C dX7_fallsBy_91 92 rfl ?_
        refine k_istore_n C dX7_fallsBy_92 rfl (by decide) [(3, .int (iI (ior x3 0))), (0, .ref (qh 0)), (2, .int (iI x2)), (4, .int (iI x4))] rfl 93 rfl ?_
        refine k_iinc (j := 3) C dX7_fallsBy_93 rfl (by decide) [(4, .int (iI (x4 + 1))), (3, .int (iI (ior x3 0))), (0, .ref (qh 0)), (2, .int (iI x2))] rfl 96 rfl ?_
        refine k_goto C dX7_fallsBy_96 48 (by decide) ?_
        refine k_lv C [2, 3, 1, 0] [(0, .ref (qh 0)), (2, .int (iI x2)), (3, .int (iI (ior x3 0))), (4, .int (iI (x4 + 1)))] rfl ?_
        exact ih x2 (ior x3 0) (x4 + 1) N_h L_h h hK_99
      · have h := hf hc62; clear ht hf
        refine k_aload_n C dX7_fallsBy_65 0 rfl rfl 66 rfl ?_
        refine k_iload C dX7_fallsBy_66 3 rfl 68 rfl ?_
        have hM := c_X7_stands (l := l) (D := D) (cI := cI) (cJ := cJ) (cZ := cZ) qh B_h P_h N_h L_h E_h V_h G_h D_h O_h Z_h R_h I_h x4 _ h
        refine k_callV C dX7_fallsBy_68 hM gX7_fallsBy_X7_stands rfl sg_X7_stands 7 rfl rfl rfl (Nat.le_of_ble_eq_true rfl) ⟨⟨rfl, rfl⟩, by decide, by decide⟩ ⟨Nat.le_refl 0, Nat.le_refl 0⟩ [0, 1, 2, 3, 4, 5, 6, 7, 8, 9, 10, 11, 12, 13, 14, 15, 16] [] rfl rfl rfl rfl (by decide) 0 0 ⟨rfl, rfl⟩ 71 rfl (fun v w1 hq68 => ?_)
        obtain ⟨r68, rfl, rfl, hb68, h⟩ := hq68
        refine k_perm C [0, 1, 2, 3, 4, 5, 6, 7, 8, 9, 10, 11, 12, 13, 14, 15, 16] [.int (iI r68), .int (iI x3)] ((wdM cI cJ cZ qh B_h P_h N_h L_h E_h V_h G_h D_h O_h Z_h R_h I_h)) rfl rfl rfl ?_
        obtain ⟨ht, hf⟩ := h
        refine k_if_eq C dX7_fallsBy_71 (by rcases hb68 with rfl | rfl <;> decide) 83 74 (by decide) rfl (fun hc71 => ?_) (fun hc71 => ?_)
        · have h := ht hc71; clear ht hf
          refine k_iconst C dX7_fallsBy_83 84 rfl ?_
          refine k_iload C dX7_fallsBy_84 3 rfl 86 rfl ?_
          refine k_ishl C dX7_fallsBy_86 87 rfl ?_
          refine k_goto C dX7_fallsBy_87 91 (by decide) ?_
          refine k_ior C dX7_fallsBy_91 92 rfl ?_
          refine k_istore_n C dX7_fallsBy_92 rfl (by decide) [(3, .int (iI (ior x3 (ishl 1 x4)))), (0, .ref (qh 0)), (2, .int (iI x2)), (4, .int (iI x4))] rfl 93 rfl ?_
          refine k_iinc (j := 3) C dX7_fallsBy_93 rfl (by decide) [(4, .int (iI (x4 + 1))), (3, .int (iI (ior x3 (ishl 1 x4)))), (0, .ref (qh 0)), (2, .int (iI x2))] rfl 96 rfl ?_
          refine k_goto C dX7_fallsBy_96 48 (by decide) ?_
          refine k_lv C [2, 3, 1, 0] [(0, .ref (qh 0)), (2, .int (iI x2)), (3, .int (iI (ior x3 (ishl 1 x4)))), (4, .int (iI (x4 + 1)))] rfl ?_
          exact ih x2 (ior x3 (ishl 1 x4)) (x4 + 1) N_h L_h h hK_99
        · have h := hf hc71; clear ht hf
          refine k_aload_n C dX7_fallsBy_74 0 rfl rfl 75 rfl ?_
          refine k_iload C dX7_fallsBy_75 3 rfl 77 rfl ?_
          have hM := c_X7_isOver (l := l) (D := D) (cI := cI) (cJ := cJ) (cZ := cZ) qh B_h P_h N_h L_h E_h V_h G_h D_h O_h Z_h R_h I_h x4 _ h
          refine k_callV C dX7_fallsBy_77 hM gX7_fallsBy_X7_isOver rfl sg_X7_isOver 7 rfl rfl rfl (Nat.le_of_ble_eq_true rfl) ⟨⟨rfl, rfl⟩, by decide, by decide⟩ ⟨Nat.le_refl 0, Nat.le_refl 0⟩ [0, 1, 2, 3, 4, 5, 6, 7, 8, 9, 10, 11, 12, 13, 14, 15, 16] [] rfl rfl rfl rfl (by decide) 0 0 ⟨rfl, rfl⟩ 80 rfl (fun v w1 hq77 => ?_)
          obtain ⟨r77, rfl, rfl, hb77, h⟩ := hq77
          refine k_perm C [0, 1, 2, 3, 4, 5, 6, 7, 8, 9, 10, 11, 12, 13, 14, 15, 16] [.int (iI r77), .int (iI x3)] ((wdM cI cJ cZ qh B_h P_h N_h L_h E_h V_h G_h D_h O_h Z_h R_h I_h)) rfl rfl rfl ?_
          obtain ⟨ht, hf⟩ := h
          refine k_if_eq C dX7_fallsBy_80 (by rcases hb77 with rfl | rfl <;> decide) 90 83 (by decide) rfl (fun hc80 => ?_) (fun hc80 => ?_)
          · have h := ht hc80; clear ht hf
            refine k_iconst C dX7_fallsBy_90 91 rfl ?_
            refine k_ior C dX7_fallsBy_91 92 rfl ?_
            refine k_istore_n C dX7_fallsBy_92 rfl (by decide) [(3, .int (iI (ior x3 0))), (0, .ref (qh 0)), (2, .int (iI x2)), (4, .int (iI x4))] rfl 93 rfl ?_
            refine k_iinc (j := 3) C dX7_fallsBy_93 rfl (by decide) [(4, .int (iI (x4 + 1))), (3, .int (iI (ior x3 0))), (0, .ref (qh 0)), (2, .int (iI x2))] rfl 96 rfl ?_
            refine k_goto C dX7_fallsBy_96 48 (by decide) ?_
            refine k_lv C [2, 3, 1, 0] [(0, .ref (qh 0)), (2, .int (iI x2)), (3, .int (iI (ior x3 0))), (4, .int (iI (x4 + 1)))] rfl ?_
            exact ih x2 (ior x3 0) (x4 + 1) N_h L_h h hK_99
          · have h := hf hc80; clear ht hf
            refine k_iconst C dX7_fallsBy_83 84 rfl ?_
            refine k_iload C dX7_fallsBy_84 3 rfl 86 rfl ?_
            refine k_ishl C dX7_fallsBy_86 87 rfl ?_
            refine k_goto C dX7_fallsBy_87 91 (by decide) ?_
            refine k_ior C dX7_fallsBy_91 92 rfl ?_
            refine k_istore_n C dX7_fallsBy_92 rfl (by decide) [(3, .int (iI (ior x3 (ishl 1 x4)))), (0, .ref (qh 0)), (2, .int (iI x2)), (4, .int (iI x4))] rfl 93 rfl ?_
            refine k_iinc (j := 3) C dX7_fallsBy_93 rfl (by decide) [(4, .int (iI (x4 + 1))), (3, .int (iI (ior x3 (ishl 1 x4)))), (0, .ref (qh 0)), (2, .int (iI x2))] rfl 96 rfl ?_
            refine k_goto C dX7_fallsBy_96 48 (by decide) ?_
            refine k_lv C [2, 3, 1, 0] [(0, .ref (qh 0)), (2, .int (iI x2)), (3, .int (iI (ior x3 (ishl 1 x4)))), (4, .int (iI (x4 + 1)))] rfl ?_
            exact ih x2 (ior x3 (ishl 1 x4)) (x4 + 1) N_h L_h h hK_99
set_option maxHeartbeats 4000000 in
set_option maxRecDepth 20000 in
theorem w_X7_fallsBy_102 {l : Launch} {D : va_G} {cI cJ cZ : ClassId} {A : Nat → Prop} {K : KT} {qh : Nat → Nat} {B_h : gMB} {P_h : gMP} {E_h : gME} {V_h : gMV} {G_h : gMG} {D_h : gMD} {O_h : gMO} {Z_h : gMZ} {R_h : gMR} {I_h : gMI} {Q : Int → gMN → gML → Prop} {K_130 : Int → Int → gMN → gML → Prop} (C : KC cX7_fallsBy yX7_fallsBy.cls wsX7_fallsBy rm_X7_fallsBy 5 D (kT cI cJ cZ) A l false (rp_X7_fallsBy cI cJ cZ qh B_h P_h E_h V_h G_h D_h O_h Z_h R_h I_h Q) 0 0 K) : ∀ (n : Nat) (x2 : Int) (x3 : Int) (x4 : Int) (N_h : gMN) (L_h : gML), wp_X7_fallsBy_102 K_130 Q n x2 x3 x4 N_h L_h → (∀ (x2 : Int) (x3 : Int) (N_h : gMN) (L_h : gML), K_130 x2 x3 N_h L_h → K 0 0 130 [(0, .ref (qh 0)), (2, .int (iI x2)), (3, .int (iI x3))] [] ((wdM cI cJ cZ qh B_h P_h N_h L_h E_h V_h G_h D_h O_h Z_h R_h I_h))) → K 0 0 102 [(0, .ref (qh 0)), (2, .int (iI x2)), (3, .int (iI x3)), (4, .int (iI x4))] [] ((wdM cI cJ cZ qh B_h P_h N_h L_h E_h V_h G_h D_h O_h Z_h R_h I_h)) := by
  intro n
  induction n with
  | zero => intro x2 x3 x4 N_h L_h h; exact h.elim
  | succ n ih =>
    intro x2 x3 x4 N_h L_h h hK_130
    refine k_iload C dX7_fallsBy_102 3 rfl 104 rfl ?_
    refine k_bipush C dX7_fallsBy_104 (by decide) 106 rfl ?_
    obtain ⟨hr106a, h⟩ := h
    obtain ⟨ht, hf⟩ := h
    refine k_icmp_ge C dX7_fallsBy_106 ⟨hr106a, (by decide)⟩ 130 109 (by decide) rfl (fun hc106 => ?_) (fun hc106 => ?_)
    · have h := ht hc106; clear ht hf
      refine k_lv C [0, 1, 2] [(0, .ref (qh 0)), (2, .int (iI x2)), (3, .int (iI x3))] rfl ?_
      exact hK_130 x2 x3 N_h L_h h
    · have h := hf hc106; clear ht hf
      refine k_iload_n C dX7_fallsBy_109 2 rfl rfl 110 rfl ?_
      refine k_iload C dX7_fallsBy_110 3 rfl 112 rfl ?_
      have hM := c_X7_has (l := l) (D := D) (cI := cI) (cJ := cJ) (cZ := cZ) x3 x4 _ h
      refine k_callS C dX7_fallsBy_112 hM gX7_fallsBy_X7_has rfl sg_X7_has rfl (Nat.le_of_ble_eq_true rfl) ⟨⟨rfl, rfl⟩, by decide, by decide⟩ ⟨Nat.le_refl 0, Nat.le_refl 0⟩ [] [0, 1, 2, 3, 4, 5, 6, 7, 8, 9, 10, 11, 12, 13, 14, 15, 16] rfl rfl rfl rfl (by decide) 0 0 ⟨rfl, rfl⟩ 115 rfl (fun v w1 hq112 => ?_)
      obtain ⟨r112, rfl, rfl, hb112, h⟩ := hq112
      refine k_perm C [0, 1, 2, 3, 4, 5, 6, 7, 8, 9, 10, 11, 12, 13, 14, 15, 16] [.int (iI r112)] ((wdM cI cJ cZ qh B_h P_h N_h L_h E_h V_h G_h D_h O_h Z_h R_h I_h)) rfl rfl rfl ?_
      obtain ⟨ht, hf⟩ := h
      refine k_if_eq C dX7_fallsBy_115 (by rcases hb112 with rfl | rfl <;> decide) 124 118 (by decide) rfl (fun hc115 => ?_) (fun hc115 => ?_)
      · have h := ht hc115; clear ht hf
        refine k_iinc (j := 3) C dX7_fallsBy_124 rfl (by decide) [(4, .int (iI (x4 + 1))), (0, .ref (qh 0)), (2, .int (iI x2)), (3, .int (iI x3))] rfl 127 rfl ?_
        refine k_goto C dX7_fallsBy_127 102 (by decide) ?_
        refine k_lv C [1, 2, 3, 0] [(0, .ref (qh 0)), (2, .int (iI x2)), (3, .int (iI x3)), (4, .int (iI (x4 + 1)))] rfl ?_
        exact ih x2 x3 (x4 + 1) N_h L_h h hK_130
      · have h := hf hc115; clear ht hf
        refine k_aload_n C dX7_fallsBy_118 0 rfl rfl 119 rfl ?_
        refine k_iload C dX7_fallsBy_119 3 rfl 121 rfl ?_
        have hM := c_X7_take (l := l) (D := D) (cI := cI) (cJ := cJ) (cZ := cZ) qh B_h P_h N_h L_h E_h V_h G_h D_h O_h Z_h R_h I_h x4 _ h
        refine k_callV C dX7_fallsBy_121 hM gX7_fallsBy_X7_take rfl sg_X7_take 7 rfl rfl rfl (Nat.le_of_ble_eq_true rfl) ⟨⟨rfl, rfl⟩, by decide, by decide⟩ ⟨Nat.le_refl 0, Nat.le_refl 0⟩ [0, 1, 2, 3, 4, 5, 6, 7, 8, 9, 10, 11, 12, 13, 14, 15, 16] [] rfl rfl rfl rfl (by decide) 0 0 ⟨rfl, rfl⟩ 124 rfl (fun v w1 hq121 => ?_)
        obtain ⟨N_h_121, rfl, rfl, h⟩ := hq121
        refine k_perm C [0, 1, 2, 3, 4, 5, 6, 7, 8, 9, 10, 11, 12, 13, 14, 15, 16] [] ((wdM cI cJ cZ qh B_h P_h N_h_121 L_h E_h V_h G_h D_h O_h Z_h R_h I_h)) rfl rfl rfl ?_
        refine k_iinc (j := 3) C dX7_fallsBy_124 rfl (by decide) [(4, .int (iI (x4 + 1))), (0, .ref (qh 0)), (2, .int (iI x2)), (3, .int (iI x3))] rfl 127 rfl ?_
        refine k_goto C dX7_fallsBy_127 102 (by decide) ?_
        refine k_lv C [1, 2, 3, 0] [(0, .ref (qh 0)), (2, .int (iI x2)), (3, .int (iI x3)), (4, .int (iI (x4 + 1)))] rfl ?_
        exact ih x2 x3 (x4 + 1) N_h_121 L_h h hK_130
set_option maxHeartbeats 4000000 in
set_option maxRecDepth 20000 in
theorem w_X7_fallsBy_35 {l : Launch} {D : va_G} {cI cJ cZ : ClassId} {A : Nat → Prop} {K : KT} {qh : Nat → Nat} {B_h : gMB} {P_h : gMP} {E_h : gME} {V_h : gMV} {G_h : gMG} {D_h : gMD} {O_h : gMO} {Z_h : gMZ} {R_h : gMR} {I_h : gMI} {Q : Int → gMN → gML → Prop} {K_137 : Int → gMN → gML → Prop} (C : KC cX7_fallsBy yX7_fallsBy.cls wsX7_fallsBy rm_X7_fallsBy 5 D (kT cI cJ cZ) A l false (rp_X7_fallsBy cI cJ cZ qh B_h P_h E_h V_h G_h D_h O_h Z_h R_h I_h Q) 0 0 K) : ∀ (n : Nat) (x2 : Int) (x3 : Int) (N_h : gMN) (L_h : gML), wp_X7_fallsBy_35 B_h K_137 Q n x2 x3 N_h L_h → (∀ (x2 : Int) (N_h : gMN) (L_h : gML), K_137 x2 N_h L_h → K 0 0 137 [(2, .int (iI x2))] [] ((wdM cI cJ cZ qh B_h P_h N_h L_h E_h V_h G_h D_h O_h Z_h R_h I_h))) → K 0 0 35 [(0, .ref (qh 0)), (2, .int (iI x2)), (3, .int (iI x3))] [] ((wdM cI cJ cZ qh B_h P_h N_h L_h E_h V_h G_h D_h O_h Z_h R_h I_h)) := by
  intro n
  induction n with
  | zero => intro x2 x3 N_h L_h h; exact h.elim
  | succ n ih =>
    intro x2 x3 N_h L_h h hK_137
    refine k_iload_n C dX7_fallsBy_35 2 rfl rfl 36 rfl ?_
    obtain ⟨hr36a, h⟩ := h
    obtain ⟨ht, hf⟩ := h
    refine k_if_eq C dX7_fallsBy_36 hr36a 137 39 (by decide) rfl (fun hc36 => ?_) (fun hc36 => ?_)
    · have h := ht hc36; clear ht hf
      refine k_lv C [1] [(2, .int (iI x2))] rfl ?_
      exact hK_137 x2 N_h L_h h
    · have h := hf hc36; clear ht hf
      refine k_iconst C dX7_fallsBy_39 40 rfl ?_
      refine k_istore_n C dX7_fallsBy_40 rfl (by decide) [(3, .int (iI 0)), (0, .ref (qh 0)), (2, .int (iI x2))] rfl 41 rfl ?_
      refine k_aload_n C dX7_fallsBy_41 1 rfl rfl 42 rfl ?_
      have hM := c_X7_layLoads (l := l) (D := D) (cI := cI) (cJ := cJ) (cZ := cZ) qh B_h P_h N_h L_h E_h V_h G_h D_h O_h Z_h R_h I_h _ h
      refine k_callV C dX7_fallsBy_42 hM gX7_fallsBy_X7_layLoads rfl sg_X7_layLoads 7 rfl rfl rfl (Nat.le_of_ble_eq_true rfl) ⟨⟨rfl, rfl⟩, by decide, by decide⟩ ⟨Nat.le_refl 0, Nat.le_refl 0⟩ [0, 1, 2, 3, 4, 5, 6, 7, 8, 9, 10, 11, 12, 13, 14, 15, 16] [] rfl rfl rfl rfl (by decide) 0 0 ⟨rfl, rfl⟩ 45 rfl (fun v w1 hq42 => ?_)
      obtain ⟨L_h_42, rfl, rfl, h⟩ := hq42
      refine k_perm C [0, 1, 2, 3, 4, 5, 6, 7, 8, 9, 10, 11, 12, 13, 14, 15, 16] [] ((wdM cI cJ cZ qh B_h P_h N_h L_h_42 E_h V_h G_h D_h O_h Z_h R_h I_h)) rfl rfl rfl ?_
      refine k_iconst C dX7_fallsBy_45 46 rfl ?_
      refine k_istore C dX7_fallsBy_46 (by decide) [(4, .int (iI 0)), (3, .int (iI 0)), (0, .ref (qh 0)), (2, .int (iI x2))] rfl 48 rfl ?_
      refine k_lv C [2, 3, 1, 0] [(0, .ref (qh 0)), (2, .int (iI x2)), (3, .int (iI 0)), (4, .int (iI 0))] rfl ?_
      obtain ⟨m48, h⟩ := h
      refine w_X7_fallsBy_48 C m48 x2 0 0 N_h L_h_42 h (fun x2 x3 N_h L_h h => ?_)
      · refine k_iconst C dX7_fallsBy_99 100 rfl ?_
        refine k_istore C dX7_fallsBy_100 (by decide) [(4, .int (iI 0)), (0, .ref (qh 0)), (2, .int (iI x2)), (3, .int (iI x3))] rfl 102 rfl ?_
        refine k_lv C [1, 2, 3, 0] [(0, .ref (qh 0)), (2, .int (iI x2)), (3, .int (iI x3)), (4, .int (iI 0))] rfl ?_
        obtain ⟨m102, h⟩ := h
        refine w_X7_fallsBy_102 C m102 x2 x3 0 N_h L_h h (fun x2 x3 N_h L_h h => ?_)
        · refine k_iload_n C dX7_fallsBy_130 1 rfl rfl 131 rfl ?_
          refine k_iload_n C dX7_fallsBy_131 2 rfl rfl 132 rfl ?_
          refine k_ior C dX7_fallsBy_132 133 rfl ?_
          refine k_istore_n C dX7_fallsBy_133 rfl (by decide) [(2, .int (iI (ior x2 x3))), (0, .ref (qh 0)), (3, .int (iI x3))] rfl 134 rfl ?_
          refine k_goto C dX7_fallsBy_134 35 (by decide) ?_
          refine k_lv C [1, 0, 2] [(0, .ref (qh 0)), (2, .int (iI (ior x2 x3))), (3, .int (iI x3))] rfl ?_
          exact ih (ior x2 x3) x3 N_h L_h h hK_137
set_option maxHeartbeats 4000000 in
set_option maxRecDepth 20000 in
theorem c_X7_fallsBy {l : Launch} {D : va_G} {cI cJ cZ : ClassId} (qh : Nat → Nat) (B_h : gMB) (P_h : gMP) (N_h : gMN) (L_h : gML) (E_h : gME) (V_h : gMV) (G_h : gMG) (D_h : gMD) (O_h : gMO) (Z_h : gMZ) (R_h : gMR) (I_h : gMI) (x1 : Int) (Q : Int → gMN → gML → Prop) (h : wp_X7_fallsBy B_h P_h N_h L_h x1 Q) : KM l D (kT cI cJ cZ) 0 0 yX7_fallsBy wsX7_fallsBy rm_X7_fallsBy [.ref (qh 0), .int (iI x1)] ((wdM cI cJ cZ qh B_h P_h N_h L_h E_h V_h G_h D_h O_h Z_h R_h I_h)) (rp_X7_fallsBy cI cJ cZ qh B_h P_h E_h V_h G_h D_h O_h Z_h R_h I_h Q) := by
  refine KM_intro (lv := [(0, .ref (qh 0)), (1, .int (iI x1))]) false rfl (by decide) (Nat.le_of_ble_eq_true rfl) rfl (fun h => absurd h (by decide)) (fun v ws hq => by obtain ⟨r, N_h, L_h, rfl, rfl, _⟩ := hq; exact Or.inr (Or.inl ⟨rfl, _, rfl⟩)) (fun A K C => ?_)
  refine k_aload_n C dX7_fallsBy_0 0 rfl rfl 1 rfl ?_
  have hM := c_X7_asNow (l := l) (D := D) (cI := cI) (cJ := cJ) (cZ := cZ) qh B_h P_h N_h L_h E_h V_h G_h D_h O_h Z_h R_h I_h _ h
  refine k_callV C dX7_fallsBy_1 hM gX7_fallsBy_X7_asNow rfl sg_X7_asNow 7 rfl rfl rfl (Nat.le_of_ble_eq_true rfl) ⟨⟨rfl, rfl⟩, by decide, by decide⟩ ⟨Nat.le_refl 0, Nat.le_refl 0⟩ [0, 1, 2, 3, 4, 5, 6, 7, 8, 9, 10, 11, 12, 13, 14, 15, 16] [] rfl rfl rfl rfl (by decide) 0 0 ⟨rfl, rfl⟩ 4 rfl (fun v w1 hq1 => ?_)
  obtain ⟨N_h_1, rfl, rfl, h⟩ := hq1
  refine k_perm C [0, 1, 2, 3, 4, 5, 6, 7, 8, 9, 10, 11, 12, 13, 14, 15, 16] [] ((wdM cI cJ cZ qh B_h P_h N_h_1 L_h E_h V_h G_h D_h O_h Z_h R_h I_h)) rfl rfl rfl ?_
  refine k_iconst C dX7_fallsBy_4 5 rfl ?_
  refine k_istore_n C dX7_fallsBy_5 rfl (by decide) [(2, .int (iI 0)), (0, .ref (qh 0)), (1, .int (iI x1))] rfl 6 rfl ?_
  refine k_lv C [1, 2, 0] [(0, .ref (qh 0)), (1, .int (iI x1)), (2, .int (iI 0))] rfl ?_
  obtain ⟨m6, h⟩ := h
  refine w_X7_fallsBy_6 C m6 x1 0 N_h_1 L_h h (fun N_h L_h h => ?_)
  · refine k_iconst C dX7_fallsBy_31 32 rfl ?_
    refine k_istore_n C dX7_fallsBy_32 rfl (by decide) [(2, .int (iI 0)), (0, .ref (qh 0))] rfl 33 rfl ?_
    refine k_iconst C dX7_fallsBy_33 34 rfl ?_
    refine k_istore_n C dX7_fallsBy_34 rfl (by decide) [(3, .int (iI 1)), (2, .int (iI 0)), (0, .ref (qh 0))] rfl 35 rfl ?_
    refine k_lv C [2, 1, 0] [(0, .ref (qh 0)), (2, .int (iI 0)), (3, .int (iI 1))] rfl ?_
    obtain ⟨m35, h⟩ := h
    refine w_X7_fallsBy_35 C m35 0 1 N_h L_h h (fun x2 N_h L_h h => ?_)
    · refine k_iload_n C dX7_fallsBy_137 0 rfl rfl 138 rfl ?_
      exact k_iret C dX7_fallsBy_138 ⟨x2, N_h, L_h, rfl, rfl, h⟩

/-! X7_falls -/
abbrev rm_X7_falls : Room := { frames := 6, cells := 0, slots := 0, locals := 140 }
theorem sg_X7_falls : yX7_falls.cls ≠ "java/lang/invoke/MethodHandle" ∧ yX7_falls.cls ≠ "java/lang/invoke/VarHandle" ∧ (parseMethodDescriptor yX7_falls.desc).map (fun d => d.parameters.length) = some 1 := by decide +kernel
def rp_X7_falls (cI cJ cZ : ClassId) (qh : Nat → Nat) (B_h : gMB) (P_h : gMP) (E_h : gME) (V_h : gMV) (G_h : gMG) (D_h : gMD) (O_h : gMO) (Z_h : gMZ) (R_h : gMR) (I_h : gMI) (Q : Int → gMN → gML → Prop) : Option Value → va_W → Prop := fun v w1 => ∃ (r : Int) (N_h : gMN) (L_h : gML), v = some (.int (iI r)) ∧ w1 = (wdM cI cJ cZ qh B_h P_h N_h L_h E_h V_h G_h D_h O_h Z_h R_h I_h) ∧ Q r N_h L_h
def wp_X7_falls (B_h : gMB) (P_h : gMP) (N_h : gMN) (L_h : gML) (x1 : Int) (Q : Int → gMN → gML → Prop) : Prop :=
    wp_X7_in x1 0 1023 (fun (r5 : Int) => ((r5 = 0 → Q (-2) N_h L_h) ∧ (¬ (r5 = 0) → wp_X7_fallsBy B_h P_h N_h L_h x1 (fun (r13 : Int) (N_h_13 : gMN) (L_h_13 : gML) => Q r13 N_h_13 L_h_13))))

set_option maxHeartbeats 4000000 in
set_option maxRecDepth 20000 in
theorem c_X7_falls {l : Launch} {D : va_G} {cI cJ cZ : ClassId} (qh : Nat → Nat) (B_h : gMB) (P_h : gMP) (N_h : gMN) (L_h : gML) (E_h : gME) (V_h : gMV) (G_h : gMG) (D_h : gMD) (O_h : gMO) (Z_h : gMZ) (R_h : gMR) (I_h : gMI) (x1 : Int) (Q : Int → gMN → gML → Prop) (h : wp_X7_falls B_h P_h N_h L_h x1 Q) : KM l D (kT cI cJ cZ) 0 0 yX7_falls wsX7_falls rm_X7_falls [.ref (qh 0), .int (iI x1)] ((wdM cI cJ cZ qh B_h P_h N_h L_h E_h V_h G_h D_h O_h Z_h R_h I_h)) (rp_X7_falls cI cJ cZ qh B_h P_h E_h V_h G_h D_h O_h Z_h R_h I_h Q) := by
  refine KM_intro (lv := [(0, .ref (qh 0)), (1, .int (iI x1))]) false rfl (by decide) (Nat.le_of_ble_eq_true rfl) rfl (fun h => absurd h (by decide)) (fun v ws hq => by obtain ⟨r, N_h, L_h, rfl, rfl, _⟩ := hq; exact Or.inr (Or.inl ⟨rfl, _, rfl⟩)) (fun A K C => ?_)
  refine k_iload_n C dX7_falls_0 1 rfl rfl 1 rfl ?_
  refine k_iconst C dX7_falls_1 2 rfl ?_
  refine k_sipush C dX7_falls_2 (by decide) 5 rfl ?_
  have hM := c_X7_in (l := l) (D := D) (cI := cI) (cJ := cJ) (cZ := cZ) x1 0 1023 _ h
  refine k_callS C dX7_falls_5 hM gX7_falls_X7_in rfl sg_X7_in rfl (Nat.le_of_ble_eq_true rfl) ⟨⟨rfl, rfl⟩, by decide, by decide⟩ ⟨Nat.le_refl 0, Nat.le_refl 0⟩ [] [0, 1, 2, 3, 4, 5, 6, 7, 8, 9, 10, 11, 12, 13, 14, 15, 16] rfl rfl rfl rfl (by decide) 0 0 ⟨rfl, rfl⟩ 8 rfl (fun v w1 hq5 => ?_)
  obtain ⟨r5, rfl, rfl, hb5, h⟩ := hq5
  refine k_perm C [0, 1, 2, 3, 4, 5, 6, 7, 8, 9, 10, 11, 12, 13, 14, 15, 16] [.int (iI r5)] ((wdM cI cJ cZ qh B_h P_h N_h L_h E_h V_h G_h D_h O_h Z_h R_h I_h)) rfl rfl rfl ?_
  obtain ⟨ht, hf⟩ := h
  refine k_if_eq C dX7_falls_8 (by rcases hb5 with rfl | rfl <;> decide) 19 11 (by decide) rfl (fun hc8 => ?_) (fun hc8 => ?_)
  · have h := ht hc8; clear ht hf
    refine k_bipush C dX7_falls_19 (by decide) 21 rfl ?_
    exact k_iret C dX7_falls_21 ⟨(-2), N_h, L_h, rfl, rfl, h⟩
  · have h := hf hc8; clear ht hf
    refine k_aload_n C dX7_falls_11 0 rfl rfl 12 rfl ?_
    refine k_iload_n C dX7_falls_12 1 rfl rfl 13 rfl ?_
    have hM := c_X7_fallsBy (l := l) (D := D) (cI := cI) (cJ := cJ) (cZ := cZ) qh B_h P_h N_h L_h E_h V_h G_h D_h O_h Z_h R_h I_h x1 _ h
    refine k_callV C dX7_falls_13 hM gX7_falls_X7_fallsBy rfl sg_X7_fallsBy 7 rfl rfl rfl (Nat.le_of_ble_eq_true rfl) ⟨⟨rfl, rfl⟩, by decide, by decide⟩ ⟨Nat.le_refl 0, Nat.le_refl 0⟩ [0, 1, 2, 3, 4, 5, 6, 7, 8, 9, 10, 11, 12, 13, 14, 15, 16] [] rfl rfl rfl rfl (by decide) 0 0 ⟨rfl, rfl⟩ 16 rfl (fun v w1 hq13 => ?_)
    obtain ⟨r13, N_h_13, L_h_13, rfl, rfl, h⟩ := hq13
    refine k_perm C [0, 1, 2, 3, 4, 5, 6, 7, 8, 9, 10, 11, 12, 13, 14, 15, 16] [.int (iI r13)] ((wdM cI cJ cZ qh B_h P_h N_h_13 L_h_13 E_h V_h G_h D_h O_h Z_h R_h I_h)) rfl rfl rfl ?_
    refine k_goto C dX7_falls_16 21 (by decide) ?_
    exact k_iret C dX7_falls_21 ⟨r13, N_h_13, L_h_13, rfl, rfl, h⟩

/-! X7_key -/
abbrev rm_X7_key : Room := { frames := 6, cells := 0, slots := 0, locals := 140 }
theorem sg_X7_key : yX7_key.cls ≠ "java/lang/invoke/MethodHandle" ∧ yX7_key.cls ≠ "java/lang/invoke/VarHandle" ∧ (parseMethodDescriptor yX7_key.desc).map (fun d => d.parameters.length) = some 1 := by decide +kernel
theorem hin_X7_key_7 : ∀ w ∈ wsX70, w ∈ wsX7_key := fun _ h => List.mem_cons_of_mem _ (List.mem_append_right _ h)
def rp_X7_key (cI cJ cZ : ClassId) (qh : Nat → Nat) (B_h : gMB) (P_h : gMP) (E_h : gME) (V_h : gMV) (G_h : gMG) (D_h : gMD) (O_h : gMO) (Z_h : gMZ) (R_h : gMR) (I_h : gMI) (Q : Int → gMN → gML → Prop) : Option Value → va_W → Prop := fun v w1 => ∃ (r : Int) (N_h : gMN) (L_h : gML), v = some (.int (iI r)) ∧ w1 = (wdM cI cJ cZ qh B_h P_h N_h L_h E_h V_h G_h D_h O_h Z_h R_h I_h) ∧ Q r N_h L_h
def wp_X7_key_62 (K_20 : Int → Int → Int → Int → gMN → gML → Prop)  (Q : Int → gMN → gML → Prop) (x1 : Int) (x3 : Int) (x4 : Int) (x5 : Int) (s0 : Int) (N_h : gMN) (L_h : gML) : Prop :=
    rI x5 ∧ rI x3 ∧ ((x5 ≤ x3 → K_20 x1 s0 x3 (x4 + 1) N_h L_h) ∧ (¬ (x5 ≤ x3) → K_20 x1 s0 x5 (x4 + 1) N_h L_h))
def wp_X7_key_20 (B_h : gMB) (P_h : gMP) (K_82 : Int → Int → Int → gMN → gML → Prop)  (Q : Int → gMN → gML → Prop) : Nat → Int → Int → Int → Int → gMN → gML → Prop
  | 0, _, _, _, _, _, _ => False
  | n20 + 1, x1, x2, x3, x4, N_h, L_h =>
    rI x4 ∧ ((10 ≤ x4 → K_82 x1 x2 x3 N_h L_h) ∧ (¬ (10 ≤ x4) → (0 ≤ x4 ∧ x4 < 10) ∧ rI (P_h.1 x4) ∧ (((P_h.1 x4) < 0 → wp_X7_key_20 B_h P_h K_82 Q n20 x1 x2 x3 (x4 + 1) N_h L_h) ∧ (¬ ((P_h.1 x4) < 0) → wp_X7_fallsBy B_h P_h N_h L_h (ishl 1 x4) (fun (r42 : Int) (N_h_42 : gMN) (L_h_42 : gML) => wp_X7_bits r42 (fun (r45 : Int) => rI r45 ∧ rI x3 ∧ ((r45 ≤ x3 → wp_X7_key_62 (fun (x1 : Int) (x2 : Int) (x3 : Int) (x4 : Int) (N_h : gMN) (L_h : gML) => wp_X7_key_20 B_h P_h K_82 Q n20 x1 x2 x3 x4 N_h L_h) Q x1 x3 x4 r45 x2 N_h_42 L_h_42) ∧ (¬ (r45 ≤ x3) → wp_X7_key_62 (fun (x1 : Int) (x2 : Int) (x3 : Int) (x4 : Int) (N_h : gMN) (L_h : gML) => wp_X7_key_20 B_h P_h K_82 Q n20 x1 x2 x3 x4 N_h L_h) Q x1 x3 x4 r45 x4 N_h_42 L_h_42))))))))
def wp_X7_key (B_h : gMB) (P_h : gMP) (N_h : gMN) (L_h : gML) (x1 : Int) (Q : Int → gMN → gML → Prop) : Prop :=
    wp_X7_in x1 0 1 (fun (r3 : Int) => ((¬ r3 = 0 → ∃ m20, wp_X7_key_20 B_h P_h (fun (x1 : Int) (x2 : Int) (x3 : Int) (N_h : gMN) (L_h : gML) => rI x2 ∧ ((x2 < 0 → Q x2 N_h L_h) ∧ (¬ (x2 < 0) → rI x1 ∧ ((¬ x1 = 0 → Q x3 N_h L_h) ∧ (¬ (¬ x1 = 0) → Q x2 N_h L_h))))) Q m20 x1 (-6) (-1) 0 N_h L_h) ∧ (¬ (¬ r3 = 0) → Q (-2) N_h L_h)))
set_option maxHeartbeats 4000000 in
set_option maxRecDepth 20000 in
theorem w_X7_key_62 {l : Launch} {D : va_G} {cI cJ cZ : ClassId} {A : Nat → Prop} {K : KT} {qh : Nat → Nat} {B_h : gMB} {P_h : gMP} {E_h : gME} {V_h : gMV} {G_h : gMG} {D_h : gMD} {O_h : gMO} {Z_h : gMZ} {R_h : gMR} {I_h : gMI} {Q : Int → gMN → gML → Prop} {K_20 : Int → Int → Int → Int → gMN → gML → Prop} (C : KC cX7_key yX7_key.cls wsX7_key rm_X7_key 6 D (kT cI cJ cZ) A l false (rp_X7_key cI cJ cZ qh B_h P_h E_h V_h G_h D_h O_h Z_h R_h I_h Q) 0 0 K) : ∀ (x1 : Int) (x3 : Int) (x4 : Int) (x5 : Int) (s0 : Int) (N_h : gMN) (L_h : gML), wp_X7_key_62 K_20 Q x1 x3 x4 x5 s0 N_h L_h → (∀ (x1 : Int) (x2 : Int) (x3 : Int) (x4 : Int) (N_h : gMN) (L_h : gML), K_20 x1 x2 x3 x4 N_h L_h → K 0 0 20 [(0, .ref (qh 0)), (1, .int (iI x1)), (2, .int (iI x2)), (3, .int (iI x3)), (4, .int (iI x4))] [] ((wdM cI cJ cZ qh B_h P_h N_h L_h E_h V_h G_h D_h O_h Z_h R_h I_h))) → K 0 0 62 [(0, .ref (qh 0)), (1, .int (iI x1)), (3, .int (iI x3)), (4, .int (iI x4)), (5, .int (iI x5))] [.int (iI s0)] ((wdM cI cJ cZ qh B_h P_h N_h L_h E_h V_h G_h D_h O_h Z_h R_h I_h)) := by
  intro x1 x3 x4 x5 s0 N_h L_h h hK_20
  refine k_istore_n C dX7_key_62 rfl (by decide) [(2, .int (iI s0)), (0, .ref (qh 0)), (1, .int (iI x1)), (3, .int (iI x3)), (4, .int (iI x4)), (5, .int (iI x5))] rfl 63 rfl ?_
  refine k_iload C dX7_key_63 5 rfl 65 rfl ?_
  refine k_iload_n C dX7_key_65 3 rfl rfl 66 rfl ?_
  obtain ⟨hr66a, hr66b, h⟩ := h
  obtain ⟨ht, hf⟩ := h
  refine k_icmp_le C dX7_key_66 ⟨hr66a, hr66b⟩ 74 69 (by decide) rfl (fun hc66 => ?_) (fun hc66 => ?_)
  · have h := ht hc66; clear ht hf
    refine k_iload_n C dX7_key_74 3 rfl rfl 75 rfl ?_
    refine k_istore_n C dX7_key_75 rfl (by decide) [(3, .int (iI x3)), (2, .int (iI s0)), (0, .ref (qh 0)), (1, .int (iI x1)), (4, .int (iI x4)), (5, .int (iI x5))] rfl 76 rfl ?_
    refine k_iinc (j := 4) C dX7_key_76 rfl (by decide) [(4, .int (iI (x4 + 1))), (3, .int (iI x3)), (2, .int (iI s0)), (0, .ref (qh 0)), (1, .int (iI x1)), (5, .int (iI x5))] rfl 79 rfl ?_
    refine k_goto C dX7_key_79 20 (by decide) ?_
    refine k_lv C [3, 4, 2, 1, 0] [(0, .ref (qh 0)), (1, .int (iI x1)), (2, .int (iI s0)), (3, .int (iI x3)), (4, .int (iI (x4 + 1)))] rfl ?_
    exact hK_20 x1 s0 x3 (x4 + 1) N_h L_h h
  · have h := hf hc66; clear ht hf
    refine k_iload C dX7_key_69 5 rfl 71 rfl ?_
    refine k_goto C dX7_key_71 75 (by decide) ?_
    refine k_istore_n C dX7_key_75 rfl (by decide) [(3, .int (iI x5)), (2, .int (iI s0)), (0, .ref (qh 0)), (1, .int (iI x1)), (4, .int (iI x4)), (5, .int (iI x5))] rfl 76 rfl ?_
    refine k_iinc (j := 4) C dX7_key_76 rfl (by decide) [(4, .int (iI (x4 + 1))), (3, .int (iI x5)), (2, .int (iI s0)), (0, .ref (qh 0)), (1, .int (iI x1)), (5, .int (iI x5))] rfl 79 rfl ?_
    refine k_goto C dX7_key_79 20 (by decide) ?_
    refine k_lv C [3, 4, 2, 1, 0] [(0, .ref (qh 0)), (1, .int (iI x1)), (2, .int (iI s0)), (3, .int (iI x5)), (4, .int (iI (x4 + 1)))] rfl ?_
    exact hK_20 x1 s0 x5 (x4 + 1) N_h L_h h
set_option maxHeartbeats 4000000 in
set_option maxRecDepth 20000 in
theorem w_X7_key_20 {l : Launch} {D : va_G} {cI cJ cZ : ClassId} {A : Nat → Prop} {K : KT} {qh : Nat → Nat} {B_h : gMB} {P_h : gMP} {E_h : gME} {V_h : gMV} {G_h : gMG} {D_h : gMD} {O_h : gMO} {Z_h : gMZ} {R_h : gMR} {I_h : gMI} {Q : Int → gMN → gML → Prop} {K_82 : Int → Int → Int → gMN → gML → Prop} (C : KC cX7_key yX7_key.cls wsX7_key rm_X7_key 6 D (kT cI cJ cZ) A l false (rp_X7_key cI cJ cZ qh B_h P_h E_h V_h G_h D_h O_h Z_h R_h I_h Q) 0 0 K) : ∀ (n : Nat) (x1 : Int) (x2 : Int) (x3 : Int) (x4 : Int) (N_h : gMN) (L_h : gML), wp_X7_key_20 B_h P_h K_82 Q n x1 x2 x3 x4 N_h L_h → (∀ (x1 : Int) (x2 : Int) (x3 : Int) (N_h : gMN) (L_h : gML), K_82 x1 x2 x3 N_h L_h → K 0 0 82 [(1, .int (iI x1)), (2, .int (iI x2)), (3, .int (iI x3))] [] ((wdM cI cJ cZ qh B_h P_h N_h L_h E_h V_h G_h D_h O_h Z_h R_h I_h))) → K 0 0 20 [(0, .ref (qh 0)), (1, .int (iI x1)), (2, .int (iI x2)), (3, .int (iI x3)), (4, .int (iI x4))] [] ((wdM cI cJ cZ qh B_h P_h N_h L_h E_h V_h G_h D_h O_h Z_h R_h I_h)) := by
  intro n
  induction n with
  | zero => intro x1 x2 x3 x4 N_h L_h h; exact h.elim
  | succ n ih =>
    intro x1 x2 x3 x4 N_h L_h h hK_82
    refine k_iload C dX7_key_20 4 rfl 22 rfl ?_
    refine k_bipush C dX7_key_22 (by decide) 24 rfl ?_
    obtain ⟨hr24a, h⟩ := h
    obtain ⟨ht, hf⟩ := h
    refine k_icmp_ge C dX7_key_24 ⟨hr24a, (by decide)⟩ 82 27 (by decide) rfl (fun hc24 => ?_) (fun hc24 => ?_)
    · have h := ht hc24; clear ht hf
      refine k_lv C [1, 2, 3] [(1, .int (iI x1)), (2, .int (iI x2)), (3, .int (iI x3))] rfl ?_
      exact hK_82 x1 x2 x3 N_h L_h h
    · have h := hf hc24; clear ht hf
      refine k_aload_n C dX7_key_27 0 rfl rfl 28 rfl ?_
      refine k_get C dX7_key_28 0 rfl (ci := 7) rfl hin_X7_key_7 5 (by decide) (List.mem_of_getElem? (i := 1) rfl) rfl 31 rfl ?_
      refine k_iload C dX7_key_31 4 rfl 33 rfl ?_
      obtain ⟨hi33, h⟩ := h
      refine k_iaload C dX7_key_33 4 0 rfl rfl (by decide) hi33 34 rfl ?_
      obtain ⟨hr34a, h⟩ := h
      obtain ⟨ht, hf⟩ := h
      refine k_if_lt C dX7_key_34 hr34a 76 37 (by decide) rfl (fun hc34 => ?_) (fun hc34 => ?_)
      · have h := ht hc34; clear ht hf
        refine k_iinc (j := 4) C dX7_key_76 rfl (by decide) [(4, .int (iI (x4 + 1))), (0, .ref (qh 0)), (1, .int (iI x1)), (2, .int (iI x2)), (3, .int (iI x3))] rfl 79 rfl ?_
        refine k_goto C dX7_key_79 20 (by decide) ?_
        refine k_lv C [1, 2, 3, 4, 0] [(0, .ref (qh 0)), (1, .int (iI x1)), (2, .int (iI x2)), (3, .int (iI x3)), (4, .int (iI (x4 + 1)))] rfl ?_
        exact ih x1 x2 x3 (x4 + 1) N_h L_h h hK_82
      · have h := hf hc34; clear ht hf
        refine k_aload_n C dX7_key_37 0 rfl rfl 38 rfl ?_
        refine k_iconst C dX7_key_38 39 rfl ?_
        refine k_iload C dX7_key_39 4 rfl 41 rfl ?_
        refine k_ishl C dX7_key_41 42 rfl ?_
        have hM := c_X7_fallsBy (l := l) (D := D) (cI := cI) (cJ := cJ) (cZ := cZ) qh B_h P_h N_h L_h E_h V_h G_h D_h O_h Z_h R_h I_h (ishl 1 x4) _ h
        refine k_callV C dX7_key_42 hM gX7_key_X7_fallsBy rfl sg_X7_fallsBy 7 rfl rfl rfl (Nat.le_of_ble_eq_true rfl) ⟨⟨rfl, rfl⟩, by decide, by decide⟩ ⟨Nat.le_refl 0, Nat.le_refl 0⟩ [0, 1, 2, 3, 4, 5, 6, 7, 8, 9, 10, 11, 12, 13, 14, 15, 16] [] rfl rfl rfl rfl (by decide) 0 0 ⟨rfl, rfl⟩ 45 rfl (fun v w1 hq42 => ?_)
        obtain ⟨r42, N_h_42, L_h_42, rfl, rfl, h⟩ := hq42
        refine k_perm C [0, 1, 2, 3, 4, 5, 6, 7, 8, 9, 10, 11, 12, 13, 14, 15, 16] [.int (iI r42)] ((wdM cI cJ cZ qh B_h P_h N_h_42 L_h_42 E_h V_h G_h D_h O_h Z_h R_h I_h)) rfl rfl rfl ?_
        have hM := c_X7_bits (l := l) (D := D) (cI := cI) (cJ := cJ) (cZ := cZ) r42 _ h
        refine k_callS C dX7_key_45 hM gX7_key_X7_bits rfl sg_X7_bits rfl (Nat.le_of_ble_eq_true rfl) ⟨⟨rfl, rfl⟩, by decide, by decide⟩ ⟨Nat.le_refl 0, Nat.le_refl 0⟩ [] [0, 1, 2, 3, 4, 5, 6, 7, 8, 9, 10, 11, 12, 13, 14, 15, 16] rfl rfl rfl rfl (by decide) 0 0 ⟨rfl, rfl⟩ 48 rfl (fun v w1 hq45 => ?_)
        obtain ⟨r45, rfl, rfl, h⟩ := hq45
        refine k_perm C [0, 1, 2, 3, 4, 5, 6, 7, 8, 9, 10, 11, 12, 13, 14, 15, 16] [.int (iI r45)] ((wdM cI cJ cZ qh B_h P_h N_h_42 L_h_42 E_h V_h G_h D_h O_h Z_h R_h I_h)) rfl rfl rfl ?_
        refine k_istore C dX7_key_48 (by decide) [(5, .int (iI r45)), (0, .ref (qh 0)), (1, .int (iI x1)), (2, .int (iI x2)), (3, .int (iI x3)), (4, .int (iI x4))] rfl 50 rfl ?_
        refine k_iload C dX7_key_50 0 rfl 52 rfl ?_
        refine k_iload_n C dX7_key_52 4 rfl rfl 53 rfl ?_
        obtain ⟨hr53a, hr53b, h⟩ := h
        obtain ⟨ht, hf⟩ := h
        refine k_icmp_le C dX7_key_53 ⟨hr53a, hr53b⟩ 61 56 (by decide) rfl (fun hc53 => ?_) (fun hc53 => ?_)
        · have h := ht hc53; clear ht hf
          refine k_iload_n C dX7_key_61 3 rfl rfl 62 rfl ?_
          refine k_lv C [1, 2, 4, 5, 0] [(0, .ref (qh 0)), (1, .int (iI x1)), (3, .int (iI x3)), (4, .int (iI x4)), (5, .int (iI r45))] rfl ?_
          refine w_X7_key_62 C x1 x3 x4 r45 x2 N_h_42 L_h_42 h (fun x1 x2 x3 x4 N_h L_h h => ?_)
          · exact ih x1 x2 x3 x4 N_h L_h h hK_82
        · have h := hf hc53; clear ht hf
          refine k_iload C dX7_key_56 5 rfl 58 rfl ?_
          refine k_goto C dX7_key_58 62 (by decide) ?_
          refine k_lv C [1, 2, 4, 5, 0] [(0, .ref (qh 0)), (1, .int (iI x1)), (3, .int (iI x3)), (4, .int (iI x4)), (5, .int (iI r45))] rfl ?_
          refine w_X7_key_62 C x1 x3 x4 r45 x4 N_h_42 L_h_42 h (fun x1 x2 x3 x4 N_h L_h h => ?_)
          · exact ih x1 x2 x3 x4 N_h L_h h hK_82
set_option maxHeartbeats 4000000 in
set_option maxRecDepth 20000 in
theorem c_X7_key {l : Launch} {D : va_G} {cI cJ cZ : ClassId} (qh : Nat → Nat) (B_h : gMB) (P_h : gMP) (N_h : gMN) (L_h : gML) (E_h : gME) (V_h : gMV) (G_h : gMG) (D_h : gMD) (O_h : gMO) (Z_h : gMZ) (R_h : gMR) (I_h : gMI) (x1 : Int) (Q : Int → gMN → gML → Prop) (h : wp_X7_key B_h P_h N_h L_h x1 Q) : KM l D (kT cI cJ cZ) 0 0 yX7_key wsX7_key rm_X7_key [.ref (qh 0), .int (iI x1)] ((wdM cI cJ cZ qh B_h P_h N_h L_h E_h V_h G_h D_h O_h Z_h R_h I_h)) (rp_X7_key cI cJ cZ qh B_h P_h E_h V_h G_h D_h O_h Z_h R_h I_h Q) := by
  refine KM_intro (lv := [(0, .ref (qh 0)), (1, .int (iI x1))]) false rfl (by decide) (Nat.le_of_ble_eq_true rfl) rfl (fun h => absurd h (by decide)) (fun v ws hq => by obtain ⟨r, N_h, L_h, rfl, rfl, _⟩ := hq; exact Or.inr (Or.inl ⟨rfl, _, rfl⟩)) (fun A K C => ?_)
  refine k_iload_n C dX7_key_0 1 rfl rfl 1 rfl ?_
  refine k_iconst C dX7_key_1 2 rfl ?_
  refine k_iconst C dX7_key_2 3 rfl ?_
  have hM := c_X7_in (l := l) (D := D) (cI := cI) (cJ := cJ) (cZ := cZ) x1 0 1 _ h
  refine k_callS C dX7_key_3 hM gX7_key_X7_in rfl sg_X7_in rfl (Nat.le_of_ble_eq_true rfl) ⟨⟨rfl, rfl⟩, by decide, by decide⟩ ⟨Nat.le_refl 0, Nat.le_refl 0⟩ [] [0, 1, 2, 3, 4, 5, 6, 7, 8, 9, 10, 11, 12, 13, 14, 15, 16] rfl rfl rfl rfl (by decide) 0 0 ⟨rfl, rfl⟩ 6 rfl (fun v w1 hq3 => ?_)
  obtain ⟨r3, rfl, rfl, hb3, h⟩ := hq3
  refine k_perm C [0, 1, 2, 3, 4, 5, 6, 7, 8, 9, 10, 11, 12, 13, 14, 15, 16] [.int (iI r3)] ((wdM cI cJ cZ qh B_h P_h N_h L_h E_h V_h G_h D_h O_h Z_h R_h I_h)) rfl rfl rfl ?_
  obtain ⟨ht, hf⟩ := h
  refine k_if_ne C dX7_key_6 (by rcases hb3 with rfl | rfl <;> decide) 12 9 (by decide) rfl (fun hc6 => ?_) (fun hc6 => ?_)
  · have h := ht hc6; clear ht hf
    refine k_bipush C dX7_key_12 (by decide) 14 rfl ?_
    refine k_istore_n C dX7_key_14 rfl (by decide) [(2, .int (iI (-6))), (0, .ref (qh 0)), (1, .int (iI x1))] rfl 15 rfl ?_
    refine k_iconst C dX7_key_15 16 rfl ?_
    refine k_istore_n C dX7_key_16 rfl (by decide) [(3, .int (iI (-1))), (2, .int (iI (-6))), (0, .ref (qh 0)), (1, .int (iI x1))] rfl 17 rfl ?_
    refine k_iconst C dX7_key_17 18 rfl ?_
    refine k_istore C dX7_key_18 (by decide) [(4, .int (iI 0)), (3, .int (iI (-1))), (2, .int (iI (-6))), (0, .ref (qh 0)), (1, .int (iI x1))] rfl 20 rfl ?_
    refine k_lv C [3, 4, 2, 1, 0] [(0, .ref (qh 0)), (1, .int (iI x1)), (2, .int (iI (-6))), (3, .int (iI (-1))), (4, .int (iI 0))] rfl ?_
    obtain ⟨m20, h⟩ := h
    refine w_X7_key_20 C m20 x1 (-6) (-1) 0 N_h L_h h (fun x1 x2 x3 N_h L_h h => ?_)
    · refine k_iload_n C dX7_key_82 1 rfl rfl 83 rfl ?_
      obtain ⟨hr83a, h⟩ := h
      obtain ⟨ht, hf⟩ := h
      refine k_if_lt C dX7_key_83 hr83a 90 86 (by decide) rfl (fun hc83 => ?_) (fun hc83 => ?_)
      · have h := ht hc83; clear ht hf
        refine k_iload_n C dX7_key_90 1 rfl rfl 91 rfl ?_
        refine k_goto C dX7_key_91 95 (by decide) ?_
        exact k_iret C dX7_key_95 ⟨x2, N_h, L_h, rfl, rfl, h⟩
      · have h := hf hc83; clear ht hf
        refine k_iload_n C dX7_key_86 0 rfl rfl 87 rfl ?_
        obtain ⟨hr87a, h⟩ := h
        obtain ⟨ht, hf⟩ := h
        refine k_if_ne C dX7_key_87 hr87a 94 90 (by decide) rfl (fun hc87 => ?_) (fun hc87 => ?_)
        · have h := ht hc87; clear ht hf
          refine k_iload_n C dX7_key_94 2 rfl rfl 95 rfl ?_
          exact k_iret C dX7_key_95 ⟨x3, N_h, L_h, rfl, rfl, h⟩
        · have h := hf hc87; clear ht hf
          refine k_iload_n C dX7_key_90 1 rfl rfl 91 rfl ?_
          refine k_goto C dX7_key_91 95 (by decide) ?_
          exact k_iret C dX7_key_95 ⟨x2, N_h, L_h, rfl, rfl, h⟩
  · have h := hf hc6; clear ht hf
    refine k_bipush C dX7_key_9 (by decide) 11 rfl ?_
    exact k_iret C dX7_key_11 ⟨(-2), N_h, L_h, rfl, rfl, h⟩

/-! X7_seen -/
abbrev rm_X7_seen : Room := { frames := 1, cells := 0, slots := 0, locals := 22 }
theorem sg_X7_seen : yX7_seen.cls ≠ "java/lang/invoke/MethodHandle" ∧ yX7_seen.cls ≠ "java/lang/invoke/VarHandle" ∧ (parseMethodDescriptor yX7_seen.desc).map (fun d => d.parameters.length) = some 2 := by decide +kernel
theorem hin_X7_seen_7 : ∀ w ∈ wsX70, w ∈ wsX7_seen := fun _ h => List.mem_cons_of_mem _ (List.mem_append_right _ h)
def rp_X7_seen (cI cJ cZ : ClassId) (qh : Nat → Nat) (B_h : gMB) (P_h : gMP) (N_h : gMN) (L_h : gML) (E_h : gME) (V_h : gMV) (D_h : gMD) (O_h : gMO) (Z_h : gMZ) (R_h : gMR) (I_h : gMI) (Q : Int → gMG → Prop) : Option Value → va_W → Prop := fun v w1 => ∃ (r : Int) (G_h : gMG), v = some (.int (iI r)) ∧ w1 = (wdM cI cJ cZ qh B_h P_h N_h L_h E_h V_h G_h D_h O_h Z_h R_h I_h) ∧ Q r G_h
def wp_X7_seen (B_h : gMB) (G_h : gMG) (x1 : Int) (x2 : Int) (Q : Int → gMG → Prop) : Prop :=
    wp_X7_in x1 0 (B_h.1 - 1) (fun (r8 : Int) => ((¬ r8 = 0 → wp_X7_in x2 0 10 (fun (r20 : Int) => ((¬ r20 = 0 → rI G_h.1 ∧ ((¬ G_h.1 = 8 → (0 ≤ (2 * G_h.1) ∧ (2 * G_h.1) < 16) ∧ (0 ≤ ((2 * G_h.1) + 1) ∧ ((2 * G_h.1) + 1) < 16) ∧ Q (G_h.1 + 1) (G_h.1 + 1, aset (aset G_h.2 (2 * G_h.1) x1) ((2 * G_h.1) + 1) x2)) ∧ (¬ (¬ G_h.1 = 8) → Q (-4) G_h))) ∧ (¬ (¬ r20 = 0) → Q (-2) G_h)))) ∧ (¬ (¬ r8 = 0) → Q (-1) G_h)))

set_option maxHeartbeats 4000000 in
set_option maxRecDepth 20000 in
theorem c_X7_seen {l : Launch} {D : va_G} {cI cJ cZ : ClassId} (qh : Nat → Nat) (B_h : gMB) (P_h : gMP) (N_h : gMN) (L_h : gML) (E_h : gME) (V_h : gMV) (G_h : gMG) (D_h : gMD) (O_h : gMO) (Z_h : gMZ) (R_h : gMR) (I_h : gMI) (x1 : Int) (x2 : Int) (Q : Int → gMG → Prop) (h : wp_X7_seen B_h G_h x1 x2 Q) : KM l D (kT cI cJ cZ) 0 0 yX7_seen wsX7_seen rm_X7_seen [.ref (qh 0), .int (iI x1), .int (iI x2)] ((wdM cI cJ cZ qh B_h P_h N_h L_h E_h V_h G_h D_h O_h Z_h R_h I_h)) (rp_X7_seen cI cJ cZ qh B_h P_h N_h L_h E_h V_h D_h O_h Z_h R_h I_h Q) := by
  refine KM_intro (lv := [(0, .ref (qh 0)), (1, .int (iI x1)), (2, .int (iI x2))]) false rfl (by decide) (Nat.le_of_ble_eq_true rfl) rfl (fun h => absurd h (by decide)) (fun v ws hq => by obtain ⟨r, G_h, rfl, rfl, _⟩ := hq; exact Or.inr (Or.inl ⟨rfl, _, rfl⟩)) (fun A K C => ?_)
  refine k_iload_n C dX7_seen_0 1 rfl rfl 1 rfl ?_
  refine k_iconst C dX7_seen_1 2 rfl ?_
  refine k_aload_n C dX7_seen_2 0 rfl rfl 3 rfl ?_
  refine k_get C dX7_seen_3 0 rfl (ci := 7) rfl hin_X7_seen_7 0 (by decide) (List.mem_of_getElem? (i := 1) rfl) rfl 6 rfl ?_
  refine k_iconst C dX7_seen_6 7 rfl ?_
  refine k_isub C dX7_seen_7 8 rfl ?_
  have hM := c_X7_in (l := l) (D := D) (cI := cI) (cJ := cJ) (cZ := cZ) x1 0 (B_h.1 - 1) _ h
  refine k_callS C dX7_seen_8 hM gX7_seen_X7_in rfl sg_X7_in rfl (Nat.le_of_ble_eq_true rfl) ⟨⟨rfl, rfl⟩, by decide, by decide⟩ ⟨Nat.le_refl 0, Nat.le_refl 0⟩ [] [0, 1, 2, 3, 4, 5, 6, 7, 8, 9, 10, 11, 12, 13, 14, 15, 16] rfl rfl rfl rfl (by decide) 0 0 ⟨rfl, rfl⟩ 11 rfl (fun v w1 hq8 => ?_)
  obtain ⟨r8, rfl, rfl, hb8, h⟩ := hq8
  refine k_perm C [0, 1, 2, 3, 4, 5, 6, 7, 8, 9, 10, 11, 12, 13, 14, 15, 16] [.int (iI r8)] ((wdM cI cJ cZ qh B_h P_h N_h L_h E_h V_h G_h D_h O_h Z_h R_h I_h)) rfl rfl rfl ?_
  obtain ⟨ht, hf⟩ := h
  refine k_if_ne C dX7_seen_11 (by rcases hb8 with rfl | rfl <;> decide) 16 14 (by decide) rfl (fun hc11 => ?_) (fun hc11 => ?_)
  · have h := ht hc11; clear ht hf
    refine k_iload_n C dX7_seen_16 2 rfl rfl 17 rfl ?_
    refine k_iconst C dX7_seen_17 18 rfl ?_
    refine k_bipush C dX7_seen_18 (by decide) 20 rfl ?_
    have hM := c_X7_in (l := l) (D := D) (cI := cI) (cJ := cJ) (cZ := cZ) x2 0 10 _ h
    refine k_callS C dX7_seen_20 hM gX7_seen_X7_in rfl sg_X7_in rfl (Nat.le_of_ble_eq_true rfl) ⟨⟨rfl, rfl⟩, by decide, by decide⟩ ⟨Nat.le_refl 0, Nat.le_refl 0⟩ [] [0, 1, 2, 3, 4, 5, 6, 7, 8, 9, 10, 11, 12, 13, 14, 15, 16] rfl rfl rfl rfl (by decide) 0 0 ⟨rfl, rfl⟩ 23 rfl (fun v w1 hq20 => ?_)
    obtain ⟨r20, rfl, rfl, hb20, h⟩ := hq20
    refine k_perm C [0, 1, 2, 3, 4, 5, 6, 7, 8, 9, 10, 11, 12, 13, 14, 15, 16] [.int (iI r20)] ((wdM cI cJ cZ qh B_h P_h N_h L_h E_h V_h G_h D_h O_h Z_h R_h I_h)) rfl rfl rfl ?_
    obtain ⟨ht, hf⟩ := h
    refine k_if_ne C dX7_seen_23 (by rcases hb20 with rfl | rfl <;> decide) 29 26 (by decide) rfl (fun hc23 => ?_) (fun hc23 => ?_)
    · have h := ht hc23; clear ht hf
      refine k_aload_n C dX7_seen_29 0 rfl rfl 30 rfl ?_
      refine k_get C dX7_seen_30 0 rfl (ci := 7) rfl hin_X7_seen_7 7 (by decide) (List.mem_of_getElem? (i := 2) rfl) rfl 33 rfl ?_
      refine k_bipush C dX7_seen_33 (by decide) 35 rfl ?_
      obtain ⟨hr35a, h⟩ := h
      obtain ⟨ht, hf⟩ := h
      refine k_icmp_ne C dX7_seen_35 ⟨hr35a, (by decide)⟩ 41 38 (by decide) rfl (fun hc35 => ?_) (fun hc35 => ?_)
      · have h := ht hc35; clear ht hf
        refine k_aload_n C dX7_seen_41 0 rfl rfl 42 rfl ?_
        refine k_get C dX7_seen_42 0 rfl (ci := 7) rfl hin_X7_seen_7 8 (by decide) (List.mem_of_getElem? (i := 3) rfl) rfl 45 rfl ?_
        refine k_iconst C dX7_seen_45 46 rfl ?_
        refine k_aload_n C dX7_seen_46 0 rfl rfl 47 rfl ?_
        refine k_get C dX7_seen_47 0 rfl (ci := 7) rfl hin_X7_seen_7 7 (by decide) (List.mem_of_getElem? (i := 2) rfl) rfl 50 rfl ?_
        refine k_imul C dX7_seen_50 51 rfl ?_
        refine k_iload_n C dX7_seen_51 1 rfl rfl 52 rfl ?_
        obtain ⟨hi52, h⟩ := h
        refine k_iastore C dX7_seen_52 6 0 rfl rfl (by decide) hi52 ((wdM cI cJ cZ qh B_h P_h N_h L_h E_h V_h (G_h.1, aset G_h.2 (2 * G_h.1) x1) D_h O_h Z_h R_h I_h)) rfl 53 rfl ?_
        refine k_aload_n C dX7_seen_53 0 rfl rfl 54 rfl ?_
        refine k_get C dX7_seen_54 0 rfl (ci := 7) rfl hin_X7_seen_7 8 (by decide) (List.mem_of_getElem? (i := 3) rfl) rfl 57 rfl ?_
        refine k_iconst C dX7_seen_57 58 rfl ?_
        refine k_aload_n C dX7_seen_58 0 rfl rfl 59 rfl ?_
        refine k_get C dX7_seen_59 0 rfl (ci := 7) rfl hin_X7_seen_7 7 (by decide) (List.mem_of_getElem? (i := 2) rfl) rfl 62 rfl ?_
        refine k_imul C dX7_seen_62 63 rfl ?_
        refine k_iconst C dX7_seen_63 64 rfl ?_
        refine k_iadd C dX7_seen_64 65 rfl ?_
        refine k_iload_n C dX7_seen_65 2 rfl rfl 66 rfl ?_
        obtain ⟨hi66, h⟩ := h
        refine k_iastore C dX7_seen_66 6 0 rfl rfl (by decide) hi66 ((wdM cI cJ cZ qh B_h P_h N_h L_h E_h V_h (G_h.1, aset (aset G_h.2 (2 * G_h.1) x1) ((2 * G_h.1) + 1) x2) D_h O_h Z_h R_h I_h)) rfl 67 rfl ?_
        refine k_aload_n C dX7_seen_67 0 rfl rfl 68 rfl ?_
        refine k_dup C dX7_seen_68 rfl 69 rfl ?_
        refine k_get C dX7_seen_69 0 rfl (ci := 7) rfl hin_X7_seen_7 7 (by decide) (List.mem_of_getElem? (i := 2) rfl) rfl 72 rfl ?_
        refine k_iconst C dX7_seen_72 73 rfl ?_
        refine k_iadd C dX7_seen_73 74 rfl ?_
        refine k_put C dX7_seen_74 0 rfl (ci := 7) rfl hin_X7_seen_7 tyX7_ok nmX7 7 (by decide) (List.mem_of_getElem? (i := 2) rfl) rfl rfl rfl (Nat.le_of_ble_eq_true rfl) ((wdM cI cJ cZ qh B_h P_h N_h L_h E_h V_h (G_h.1 + 1, aset (aset G_h.2 (2 * G_h.1) x1) ((2 * G_h.1) + 1) x2) D_h O_h Z_h R_h I_h)) rfl 77 rfl ?_
        refine k_aload_n C dX7_seen_77 0 rfl rfl 78 rfl ?_
        refine k_get C dX7_seen_78 0 rfl (ci := 7) rfl hin_X7_seen_7 7 (by decide) (List.mem_of_getElem? (i := 2) rfl) rfl 81 rfl ?_
        exact k_iret C dX7_seen_81 ⟨G_h.1 + 1, (G_h.1 + 1, aset (aset G_h.2 (2 * G_h.1) x1) ((2 * G_h.1) + 1) x2), rfl, rfl, h⟩
      · have h := hf hc35; clear ht hf
        refine k_bipush C dX7_seen_38 (by decide) 40 rfl ?_
        exact k_iret C dX7_seen_40 ⟨(-4), G_h, rfl, rfl, h⟩
    · have h := hf hc23; clear ht hf
      refine k_bipush C dX7_seen_26 (by decide) 28 rfl ?_
      exact k_iret C dX7_seen_28 ⟨(-2), G_h, rfl, rfl, h⟩
  · have h := hf hc11; clear ht hf
    refine k_iconst C dX7_seen_14 15 rfl ?_
    exact k_iret C dX7_seen_15 ⟨(-1), G_h, rfl, rfl, h⟩

/-! X7_forget -/
abbrev rm_X7_forget : Room := { frames := 0, cells := 0, slots := 0, locals := 0 }
theorem sg_X7_forget : yX7_forget.cls ≠ "java/lang/invoke/MethodHandle" ∧ yX7_forget.cls ≠ "java/lang/invoke/VarHandle" ∧ (parseMethodDescriptor yX7_forget.desc).map (fun d => d.parameters.length) = some 0 := by decide +kernel
theorem hin_X7_forget_7 : ∀ w ∈ wsX70, w ∈ wsX7_forget := fun _ h => List.mem_cons_of_mem _ (List.mem_append_right _ h)
def rp_X7_forget (cI cJ cZ : ClassId) (qh : Nat → Nat) (B_h : gMB) (P_h : gMP) (N_h : gMN) (L_h : gML) (E_h : gME) (V_h : gMV) (D_h : gMD) (O_h : gMO) (Z_h : gMZ) (R_h : gMR) (I_h : gMI) (Q : Int → gMG → Prop) : Option Value → va_W → Prop := fun v w1 => ∃ (r : Int) (G_h : gMG), v = some (.int (iI r)) ∧ w1 = (wdM cI cJ cZ qh B_h P_h N_h L_h E_h V_h G_h D_h O_h Z_h R_h I_h) ∧ Q r G_h
def wp_X7_forget (G_h : gMG) (Q : Int → gMG → Prop) : Prop :=
    Q G_h.1 (0, G_h.2)

set_option maxHeartbeats 4000000 in
set_option maxRecDepth 20000 in
theorem c_X7_forget {l : Launch} {D : va_G} {cI cJ cZ : ClassId} (qh : Nat → Nat) (B_h : gMB) (P_h : gMP) (N_h : gMN) (L_h : gML) (E_h : gME) (V_h : gMV) (G_h : gMG) (D_h : gMD) (O_h : gMO) (Z_h : gMZ) (R_h : gMR) (I_h : gMI) (Q : Int → gMG → Prop) (h : wp_X7_forget G_h Q) : KM l D (kT cI cJ cZ) 0 0 yX7_forget wsX7_forget rm_X7_forget [.ref (qh 0)] ((wdM cI cJ cZ qh B_h P_h N_h L_h E_h V_h G_h D_h O_h Z_h R_h I_h)) (rp_X7_forget cI cJ cZ qh B_h P_h N_h L_h E_h V_h D_h O_h Z_h R_h I_h Q) := by
  refine KM_intro (lv := [(0, .ref (qh 0))]) false rfl (by decide) (Nat.le_of_ble_eq_true rfl) rfl (fun h => absurd h (by decide)) (fun v ws hq => by obtain ⟨r, G_h, rfl, rfl, _⟩ := hq; exact Or.inr (Or.inl ⟨rfl, _, rfl⟩)) (fun A K C => ?_)
  refine k_aload_n C dX7_forget_0 0 rfl rfl 1 rfl ?_
  refine k_get C dX7_forget_1 0 rfl (ci := 7) rfl hin_X7_forget_7 7 (by decide) (List.mem_of_getElem? (i := 1) rfl) rfl 4 rfl ?_
  refine k_istore_n C dX7_forget_4 rfl (by decide) [(1, .int (iI G_h.1)), (0, .ref (qh 0))] rfl 5 rfl ?_
  refine k_aload_n C dX7_forget_5 1 rfl rfl 6 rfl ?_
  refine k_iconst C dX7_forget_6 7 rfl ?_
  refine k_put C dX7_forget_7 0 rfl (ci := 7) rfl hin_X7_forget_7 tyX7_ok nmX7 7 (by decide) (List.mem_of_getElem? (i := 1) rfl) rfl rfl rfl (Nat.le_of_ble_eq_true rfl) ((wdM cI cJ cZ qh B_h P_h N_h L_h E_h V_h (0, G_h.2) D_h O_h Z_h R_h I_h)) rfl 10 rfl ?_
  refine k_iload_n C dX7_forget_10 0 rfl rfl 11 rfl ?_
  exact k_iret C dX7_forget_11 ⟨G_h.1, (0, G_h.2), rfl, rfl, h⟩

/-! X7_layWho -/
abbrev rm_X7_layWho : Room := { frames := 7, cells := 0, slots := 0, locals := 167 }
theorem sg_X7_layWho : yX7_layWho.cls ≠ "java/lang/invoke/MethodHandle" ∧ yX7_layWho.cls ≠ "java/lang/invoke/VarHandle" ∧ (parseMethodDescriptor yX7_layWho.desc).map (fun d => d.parameters.length) = some 1 := by decide +kernel
theorem hin_X7_layWho_7 : ∀ w ∈ wsX70, w ∈ wsX7_layWho := fun _ h => List.mem_cons_of_mem _ (List.mem_append_right _ h)
def rp_X7_layWho (cI cJ cZ : ClassId) (qh : Nat → Nat) (B_h : gMB) (P_h : gMP) (E_h : gME) (V_h : gMV) (G_h : gMG) (D_h : gMD) (O_h : gMO) (I_h : gMI) (Q : gMN → gML → gMZ → gMR → Prop) : Option Value → va_W → Prop := fun v w1 => ∃ (N_h : gMN) (L_h : gML) (Z_h : gMZ) (R_h : gMR), v = none ∧ w1 = (wdM cI cJ cZ qh B_h P_h N_h L_h E_h V_h G_h D_h O_h Z_h R_h I_h) ∧ Q N_h L_h Z_h R_h
def wp_X7_layWho_19 (K_38 : Int → gMN → gML → gMZ → gMR → Prop)  (Q : gMN → gML → gMZ → gMR → Prop) : Nat → Int → Int → gMN → gML → gMZ → gMR → Prop
  | 0, _, _, _, _, _, _ => False
  | n19 + 1, x1, x2, N_h, L_h, Z_h, R_h =>
    rI x2 ∧ ((110 ≤ x2 → K_38 x1 N_h L_h Z_h R_h) ∧ (¬ (110 ≤ x2) → (0 ≤ x2 ∧ x2 < 110) ∧ wp_X7_layWho_19 K_38 Q n19 x1 (x2 + 1) N_h L_h Z_h (R_h.1, R_h.2.1, R_h.2.2.1, aset R_h.2.2.2 x2 0)))
def wp_X7_layWho_58 (B_h : gMB) (G_h : gMG) (K_110 : Int → Int → Int → gMN → gML → gMZ → gMR → Prop)  (Q : gMN → gML → gMZ → gMR → Prop) : Nat → Int → Int → Int → Int → gMN → gML → gMZ → gMR → Prop
  | 0, _, _, _, _, _, _, _, _ => False
  | n58 + 1, x1, x2, x3, x4, N_h, L_h, Z_h, R_h =>
    rI x4 ∧ rI G_h.1 ∧ ((G_h.1 ≤ x4 → K_110 x1 x2 x3 N_h L_h Z_h R_h) ∧ (¬ (G_h.1 ≤ x4) → rI x3 ∧ ((x3 = 0 → K_110 x1 x2 x3 N_h L_h Z_h R_h) ∧ (¬ (x3 = 0) → (0 ≤ (2 * x4) ∧ (2 * x4) < 16) ∧ wp_X7_heightOf B_h N_h (G_h.2 (2 * x4)) (fun (r81 : Int) => (0 ≤ ((2 * x4) + 1) ∧ ((2 * x4) + 1) < 16) ∧ rI r81 ∧ rI (G_h.2 ((2 * x4) + 1)) ∧ ((¬ r81 = (G_h.2 ((2 * x4) + 1)) → wp_X7_layWho_58 B_h G_h K_110 Q n58 x1 x2 0 (x4 + 1) N_h L_h Z_h R_h) ∧ (¬ (¬ r81 = (G_h.2 ((2 * x4) + 1))) → wp_X7_layWho_58 B_h G_h K_110 Q n58 x1 x2 1 (x4 + 1) N_h L_h Z_h R_h)))))))
def wp_X7_layWho_120 (K_146 : Int → Int → Int → gMN → gML → gMZ → gMR → Prop)  (Q : gMN → gML → gMZ → gMR → Prop) : Nat → Int → Int → Int → Int → gMN → gML → gMZ → gMR → Prop
  | 0, _, _, _, _, _, _, _, _ => False
  | n120 + 1, x1, x2, x4, x5, N_h, L_h, Z_h, R_h =>
    rI x5 ∧ rI x1 ∧ ((x1 ≤ x5 → K_146 x1 x2 x4 N_h L_h Z_h R_h) ∧ (¬ (x1 ≤ x5) → (0 ≤ x5 ∧ x5 < 3) ∧ wp_X7_layWho_120 K_146 Q n120 x1 x2 (ior x4 (ishl 1 (Z_h x5))) (x5 + 1) N_h L_h Z_h R_h))
def wp_X7_layWho_181 (B_h : gMB) (K_217 : Int → Int → gMN → gML → gMZ → gMR → Prop)  (Q : gMN → gML → gMZ → gMR → Prop) : Nat → Int → Int → Int → gMN → gML → gMZ → gMR → Prop
  | 0, _, _, _, _, _, _, _ => False
  | n181 + 1, x1, x2, x5, N_h, L_h, Z_h, R_h =>
    rI x5 ∧ rI B_h.1 ∧ ((B_h.1 ≤ x5 → K_217 x1 x2 N_h L_h Z_h R_h) ∧ (¬ (B_h.1 ≤ x5) → wp_X7_heightOf B_h N_h x5 (fun (r202 : Int) => (0 ≤ ((11 * x5) + r202) ∧ ((11 * x5) + r202) < 110) ∧ wp_X7_layWho_181 B_h K_217 Q n181 x1 x2 (x5 + 1) N_h L_h Z_h (R_h.1, R_h.2.1, R_h.2.2.1, aset R_h.2.2.2 ((11 * x5) + r202) ((R_h.2.2.2 ((11 * x5) + r202)) + 1)))))
def wp_X7_layWho_110 (B_h : gMB) (K_40 : Int → Int → gMN → gML → gMZ → gMR → Prop)  (Q : gMN → gML → gMZ → gMR → Prop) (x1 : Int) (x2 : Int) (x3 : Int) (N_h : gMN) (L_h : gML) (Z_h : gMZ) (R_h : gMR) : Prop :=
    rI x3 ∧ ((x3 = 0 → K_40 x1 (x2 + 1) N_h L_h Z_h R_h) ∧ (¬ (x3 = 0) → ∃ m120, wp_X7_layWho_120 (fun (x1 : Int) (x2 : Int) (x4 : Int) (N_h : gMN) (L_h : gML) (Z_h : gMZ) (R_h : gMR) => ∃ m181, wp_X7_layWho_181 B_h (fun (x1 : Int) (x2 : Int) (N_h : gMN) (L_h : gML) (Z_h : gMZ) (R_h : gMR) => K_40 x1 (x2 + 1) N_h L_h Z_h R_h) Q m181 x1 x2 0 N_h L_h Z_h (R_h.1 + 1, ior R_h.2.1 x4, iand R_h.2.2.1 x4, R_h.2.2.2)) Q m120 x1 x2 0 0 N_h L_h Z_h R_h))
def wp_X7_layWho_40 (B_h : gMB) (P_h : gMP) (G_h : gMG) (K_223 : gMN → gML → gMZ → gMR → Prop)  (Q : gMN → gML → gMZ → gMR → Prop) : Nat → Int → Int → gMN → gML → gMZ → gMR → Prop
  | 0, _, _, _, _, _, _ => False
  | n40 + 1, x1, x2, N_h, L_h, Z_h, R_h =>
    wp_X7_codes x1 (fun (r42 : Int) => rI x2 ∧ rI r42 ∧ ((r42 ≤ x2 → K_223 N_h L_h Z_h R_h) ∧ (¬ (r42 ≤ x2) → wp_X7_putsBy B_h P_h N_h L_h Z_h x2 x1 (fun (r51 : Int) (N_h_51 : gMN) (L_h_51 : gML) (Z_h_51 : gMZ) => ∃ m58, wp_X7_layWho_58 B_h G_h (fun (x1 : Int) (x2 : Int) (x3 : Int) (N_h : gMN) (L_h : gML) (Z_h : gMZ) (R_h : gMR) => wp_X7_layWho_110 B_h (fun (x1 : Int) (x2 : Int) (N_h : gMN) (L_h : gML) (Z_h : gMZ) (R_h : gMR) => wp_X7_layWho_40 B_h P_h G_h K_223 Q n40 x1 x2 N_h L_h Z_h R_h) Q x1 x2 x3 N_h L_h Z_h R_h) Q m58 x1 x2 r51 0 N_h_51 L_h_51 Z_h_51 R_h))))
def wp_X7_layWho (B_h : gMB) (P_h : gMP) (N_h : gMN) (L_h : gML) (G_h : gMG) (Z_h : gMZ) (R_h : gMR) (x1 : Int) (Q : gMN → gML → gMZ → gMR → Prop) : Prop :=
    ∃ m19, wp_X7_layWho_19 (fun (x1 : Int) (N_h : gMN) (L_h : gML) (Z_h : gMZ) (R_h : gMR) => ∃ m40, wp_X7_layWho_40 B_h P_h G_h (fun (N_h : gMN) (L_h : gML) (Z_h : gMZ) (R_h : gMR) => Q N_h L_h Z_h R_h) Q m40 x1 0 N_h L_h Z_h R_h) Q m19 x1 0 N_h L_h Z_h (0, 0, 1023, R_h.2.2.2)
set_option maxHeartbeats 4000000 in
set_option maxRecDepth 20000 in
theorem w_X7_layWho_19 {l : Launch} {D : va_G} {cI cJ cZ : ClassId} {A : Nat → Prop} {K : KT} {qh : Nat → Nat} {B_h : gMB} {P_h : gMP} {E_h : gME} {V_h : gMV} {G_h : gMG} {D_h : gMD} {O_h : gMO} {I_h : gMI} {Q : gMN → gML → gMZ → gMR → Prop} {K_38 : Int → gMN → gML → gMZ → gMR → Prop} (C : KC cX7_layWho yX7_layWho.cls wsX7_layWho rm_X7_layWho 6 D (kT cI cJ cZ) A l false (rp_X7_layWho cI cJ cZ qh B_h P_h E_h V_h G_h D_h O_h I_h Q) 0 0 K) : ∀ (n : Nat) (x1 : Int) (x2 : Int) (N_h : gMN) (L_h : gML) (Z_h : gMZ) (R_h : gMR), wp_X7_layWho_19 K_38 Q n x1 x2 N_h L_h Z_h R_h → (∀ (x1 : Int) (N_h : gMN) (L_h : gML) (Z_h : gMZ) (R_h : gMR), K_38 x1 N_h L_h Z_h R_h → K 0 0 38 [(0, .ref (qh 0)), (1, .int (iI x1))] [] ((wdM cI cJ cZ qh B_h P_h N_h L_h E_h V_h G_h D_h O_h Z_h R_h I_h))) → K 0 0 19 [(0, .ref (qh 0)), (1, .int (iI x1)), (2, .int (iI x2))] [] ((wdM cI cJ cZ qh B_h P_h N_h L_h E_h V_h G_h D_h O_h Z_h R_h I_h)) := by
  intro n
  induction n with
  | zero => intro x1 x2 N_h L_h Z_h R_h h; exact h.elim
  | succ n ih =>
    intro x1 x2 N_h L_h Z_h R_h h hK_38
    refine k_iload_n C dX7_layWho_19 2 rfl rfl 20 rfl ?_
    refine k_bipush C dX7_layWho_20 (by decide) 22 rfl ?_
    obtain ⟨hr22a, h⟩ := h
    obtain ⟨ht, hf⟩ := h
    refine k_icmp_ge C dX7_layWho_22 ⟨hr22a, (by decide)⟩ 38 25 (by decide) rfl (fun hc22 => ?_) (fun hc22 => ?_)
    · have h := ht hc22; clear ht hf
      refine k_lv C [0, 1] [(0, .ref (qh 0)), (1, .int (iI x1))] rfl ?_
      exact hK_38 x1 N_h L_h Z_h R_h h
    · have h := hf hc22; clear ht hf
      refine k_aload_n C dX7_layWho_25 0 rfl rfl 26 rfl ?_
      refine k_get C dX7_layWho_26 0 rfl (ci := 7) rfl hin_X7_layWho_7 23 (by decide) (List.mem_of_getElem? (i := 4) rfl) rfl 29 rfl ?_
      refine k_iload_n C dX7_layWho_29 2 rfl rfl 30 rfl ?_
      refine k_iconst C dX7_layWho_30 31 rfl ?_
      obtain ⟨hi31, h⟩ := h
      refine k_iastore C dX7_layWho_31 14 0 rfl rfl (by decide) hi31 ((wdM cI cJ cZ qh B_h P_h N_h L_h E_h V_h G_h D_h O_h Z_h (R_h.1, R_h.2.1, R_h.2.2.1, aset R_h.2.2.2 x2 0) I_h)) rfl 32 rfl ?_
      refine k_iinc (j := 2) C dX7_layWho_32 rfl (by decide) [(2, .int (iI (x2 + 1))), (0, .ref (qh 0)), (1, .int (iI x1))] rfl 35 rfl ?_
      refine k_goto C dX7_layWho_35 19 (by decide) ?_
      refine k_lv C [1, 2, 0] [(0, .ref (qh 0)), (1, .int (iI x1)), (2, .int (iI (x2 + 1)))] rfl ?_
      exact ih x1 (x2 + 1) N_h L_h Z_h (R_h.1, R_h.2.1, R_h.2.2.1, aset R_h.2.2.2 x2 0) h hK_38
set_option maxHeartbeats 4000000 in
set_option maxRecDepth 20000 in
theorem w_X7_layWho_58 {l : Launch} {D : va_G} {cI cJ cZ : ClassId} {A : Nat → Prop} {K : KT} {qh : Nat → Nat} {B_h : gMB} {P_h : gMP} {E_h : gME} {V_h : gMV} {G_h : gMG} {D_h : gMD} {O_h : gMO} {I_h : gMI} {Q : gMN → gML → gMZ → gMR → Prop} {K_110 : Int → Int → Int → gMN → gML → gMZ → gMR → Prop} (C : KC cX7_layWho yX7_layWho.cls wsX7_layWho rm_X7_layWho 6 D (kT cI cJ cZ) A l false (rp_X7_layWho cI cJ cZ qh B_h P_h E_h V_h G_h D_h O_h I_h Q) 0 0 K) : ∀ (n : Nat) (x1 : Int) (x2 : Int) (x3 : Int) (x4 : Int) (N_h : gMN) (L_h : gML) (Z_h : gMZ) (R_h : gMR), wp_X7_layWho_58 B_h G_h K_110 Q n x1 x2 x3 x4 N_h L_h Z_h R_h → (∀ (x1 : Int) (x2 : Int) (x3 : Int) (N_h : gMN) (L_h : gML) (Z_h : gMZ) (R_h : gMR), K_110 x1 x2 x3 N_h L_h Z_h R_h → K 0 0 110 [(0, .ref (qh 0)), (1, .int (iI x1)), (2, .int (iI x2)), (3, .int (iI x3))] [] ((wdM cI cJ cZ qh B_h P_h N_h L_h E_h V_h G_h D_h O_h Z_h R_h I_h))) → K 0 0 58 [(0, .ref (qh 0)), (1, .int (iI x1)), (2, .int (iI x2)), (3, .int (iI x3)), (4, .int (iI x4))] [] ((wdM cI cJ cZ qh B_h P_h N_h L_h E_h V_h G_h D_h O_h Z_h R_h I_h)) := by
  intro n
  induction n with
  | zero => intro x1 x2 x3 x4 N_h L_h Z_h R_h h; exact h.elim
  | succ n ih =>
    intro x1 x2 x3 x4 N_h L_h Z_h R_h h hK_110
    refine k_iload C dX7_layWho_58 4 rfl 60 rfl ?_
    refine k_aload_n C dX7_layWho_60 0 rfl rfl 61 rfl ?_
    refine k_get C dX7_layWho_61 0 rfl (ci := 7) rfl hin_X7_layWho_7 7 (by decide) (List.mem_of_getElem? (i := 5) rfl) rfl 64 rfl ?_
    obtain ⟨hr64a, hr64b, h⟩ := h
    obtain ⟨ht, hf⟩ := h
    refine k_icmp_ge C dX7_layWho_64 ⟨hr64a, hr64b⟩ 110 67 (by decide) rfl (fun hc64 => ?_) (fun hc64 => ?_)
    · have h := ht hc64; clear ht hf
      refine k_lv C [0, 1, 2, 3] [(0, .ref (qh 0)), (1, .int (iI x1)), (2, .int (iI x2)), (3, .int (iI x3))] rfl ?_
      exact hK_110 x1 x2 x3 N_h L_h Z_h R_h h
    · have h := hf hc64; clear ht hf
      refine k_iload_n C dX7_layWho_67 3 rfl rfl 68 rfl ?_
      obtain ⟨hr68a, h⟩ := h
      obtain ⟨ht, hf⟩ := h
      refine k_if_eq C dX7_layWho_68 hr68a 110 71 (by decide) rfl (fun hc68 => ?_) (fun hc68 => ?_)
      · have h := ht hc68; clear ht hf
        refine k_lv C [0, 1, 2, 3] [(0, .ref (qh 0)), (1, .int (iI x1)), (2, .int (iI x2)), (3, .int (iI x3))] rfl ?_
        exact hK_110 x1 x2 x3 N_h L_h Z_h R_h h
      · have h := hf hc68; clear ht hf
        refine k_aload_n C dX7_layWho_71 0 rfl rfl 72 rfl ?_
        refine k_aload_n C dX7_layWho_72 0 rfl rfl 73 rfl ?_
        refine k_get C dX7_layWho_73 0 rfl (ci := 7) rfl hin_X7_layWho_7 8 (by decide) (List.mem_of_getElem? (i := 6) rfl) rfl 76 rfl ?_
        refine k_iconst C dX7_layWho_76 77 rfl ?_
        refine k_iload C dX7_layWho_77 4 rfl 79 rfl ?_
        refine k_imul C dX7_layWho_79 80 rfl ?_
        obtain ⟨hi80, h⟩ := h
        refine k_iaload C dX7_layWho_80 6 0 rfl rfl (by decide) hi80 81 rfl ?_
        have hM := c_X7_heightOf (l := l) (D := D) (cI := cI) (cJ := cJ) (cZ := cZ) qh B_h P_h N_h L_h E_h V_h G_h D_h O_h Z_h R_h I_h (G_h.2 (2 * x4)) _ h
        refine k_callV C dX7_layWho_81 hM gX7_layWho_X7_heightOf rfl sg_X7_heightOf 7 rfl rfl rfl (Nat.le_of_ble_eq_true rfl) ⟨⟨rfl, rfl⟩, by decide, by decide⟩ ⟨Nat.le_refl 0, Nat.le_refl 0⟩ [0, 1, 2, 3, 4, 5, 6, 7, 8, 9, 10, 11, 12, 13, 14, 15, 16] [] rfl rfl rfl rfl (by decide) 0 0 ⟨rfl, rfl⟩ 84 rfl (fun v w1 hq81 => ?_)
        obtain ⟨r81, rfl, rfl, h⟩ := hq81
        refine k_perm C [0, 1, 2, 3, 4, 5, 6, 7, 8, 9, 10, 11, 12, 13, 14, 15, 16] [.int (iI r81)] ((wdM cI cJ cZ qh B_h P_h N_h L_h E_h V_h G_h D_h O_h Z_h R_h I_h)) rfl rfl rfl ?_
        refine k_aload_n C dX7_layWho_84 0 rfl rfl 85 rfl ?_
        refine k_get C dX7_layWho_85 0 rfl (ci := 7) rfl hin_X7_layWho_7 8 (by decide) (List.mem_of_getElem? (i := 6) rfl) rfl 88 rfl ?_
        refine k_iconst C dX7_layWho_88 89 rfl ?_
        refine k_iload C dX7_layWho_89 4 rfl 91 rfl ?_
        refine k_imul C dX7_layWho_91 92 rfl ?_
        refine k_iconst C dX7_layWho_92 93 rfl ?_
        refine k_iadd C dX7_layWho_93 94 rfl ?_
        obtain ⟨hi94, h⟩ := h
        refine k_iaload C dX7_layWho_94 6 0 rfl rfl (by decide) hi94 95 rfl ?_
        obtain ⟨hr95a, hr95b, h⟩ := h
        obtain ⟨ht, hf⟩ := h
        refine k_icmp_ne C dX7_layWho_95 ⟨hr95a, hr95b⟩ 102 98 (by decide) rfl (fun hc95 => ?_) (fun hc95 => ?_)
        · have h := ht hc95; clear ht hf
          refine k_iconst C dX7_layWho_102 103 rfl ?_
          refine k_istore_n C dX7_layWho_103 rfl (by decide) [(3, .int (iI 0)), (0, .ref (qh 0)), (1, .int (iI x1)), (2, .int (iI x2)), (4, .int (iI x4))] rfl 104 rfl ?_
          refine k_iinc (j := 4) C dX7_layWho_104 rfl (by decide) [(4, .int (iI (x4 + 1))), (3, .int (iI 0)), (0, .ref (qh 0)), (1, .int (iI x1)), (2, .int (iI x2))] rfl 107 rfl ?_
          refine k_goto C dX7_layWho_107 58 (by decide) ?_
          refine k_lv C [2, 3, 4, 1, 0] [(0, .ref (qh 0)), (1, .int (iI x1)), (2, .int (iI x2)), (3, .int (iI 0)), (4, .int (iI (x4 + 1)))] rfl ?_
          exact ih x1 x2 0 (x4 + 1) N_h L_h Z_h R_h h hK_110
        · have h := hf hc95; clear ht hf
          refine k_iconst C dX7_layWho_98 99 rfl ?_
          refine k_goto C dX7_layWho_99 103 (by decide) ?_
          refine k_istore_n C dX7_layWho_103 rfl (by decide) [(3, .int (iI 1)), (0, .ref (qh 0)), (1, .int (iI x1)), (2, .int (iI x2)), (4, .int (iI x4))] rfl 104 rfl ?_
          refine k_iinc (j := 4) C dX7_layWho_104 rfl (by decide) [(4, .int (iI (x4 + 1))), (3, .int (iI 1)), (0, .ref (qh 0)), (1, .int (iI x1)), (2, .int (iI x2))] rfl 107 rfl ?_
          refine k_goto C dX7_layWho_107 58 (by decide) ?_
          refine k_lv C [2, 3, 4, 1, 0] [(0, .ref (qh 0)), (1, .int (iI x1)), (2, .int (iI x2)), (3, .int (iI 1)), (4, .int (iI (x4 + 1)))] rfl ?_
          exact ih x1 x2 1 (x4 + 1) N_h L_h Z_h R_h h hK_110
set_option maxHeartbeats 4000000 in
set_option maxRecDepth 20000 in
theorem w_X7_layWho_120 {l : Launch} {D : va_G} {cI cJ cZ : ClassId} {A : Nat → Prop} {K : KT} {qh : Nat → Nat} {B_h : gMB} {P_h : gMP} {E_h : gME} {V_h : gMV} {G_h : gMG} {D_h : gMD} {O_h : gMO} {I_h : gMI} {Q : gMN → gML → gMZ → gMR → Prop} {K_146 : Int → Int → Int → gMN → gML → gMZ → gMR → Prop} (C : KC cX7_layWho yX7_layWho.cls wsX7_layWho rm_X7_layWho 6 D (kT cI cJ cZ) A l false (rp_X7_layWho cI cJ cZ qh B_h P_h E_h V_h G_h D_h O_h I_h Q) 0 0 K) : ∀ (n : Nat) (x1 : Int) (x2 : Int) (x4 : Int) (x5 : Int) (N_h : gMN) (L_h : gML) (Z_h : gMZ) (R_h : gMR), wp_X7_layWho_120 K_146 Q n x1 x2 x4 x5 N_h L_h Z_h R_h → (∀ (x1 : Int) (x2 : Int) (x4 : Int) (N_h : gMN) (L_h : gML) (Z_h : gMZ) (R_h : gMR), K_146 x1 x2 x4 N_h L_h Z_h R_h → K 0 0 146 [(0, .ref (qh 0)), (1, .int (iI x1)), (2, .int (iI x2)), (4, .int (iI x4))] [] ((wdM cI cJ cZ qh B_h P_h N_h L_h E_h V_h G_h D_h O_h Z_h R_h I_h))) → K 0 0 120 [(0, .ref (qh 0)), (1, .int (iI x1)), (2, .int (iI x2)), (4, .int (iI x4)), (5, .int (iI x5))] [] ((wdM cI cJ cZ qh B_h P_h N_h L_h E_h V_h G_h D_h O_h Z_h R_h I_h)) := by
  intro n
  induction n with
  | zero => intro x1 x2 x4 x5 N_h L_h Z_h R_h h; exact h.elim
  | succ n ih =>
    intro x1 x2 x4 x5 N_h L_h Z_h R_h h hK_146
    refine k_iload C dX7_layWho_120 4 rfl 122 rfl ?_
    refine k_iload_n C dX7_layWho_122 1 rfl rfl 123 rfl ?_
    obtain ⟨hr123a, hr123b, h⟩ := h
    obtain ⟨ht, hf⟩ := h
    refine k_icmp_ge C dX7_layWho_123 ⟨hr123a, hr123b⟩ 146 126 (by decide) rfl (fun hc123 => ?_) (fun hc123 => ?_)
    · have h := ht hc123; clear ht hf
      refine k_lv C [0, 1, 2, 3] [(0, .ref (qh 0)), (1, .int (iI x1)), (2, .int (iI x2)), (4, .int (iI x4))] rfl ?_
      exact hK_146 x1 x2 x4 N_h L_h Z_h R_h h
    · have h := hf hc123; clear ht hf
      refine k_iload C dX7_layWho_126 3 rfl 128 rfl ?_
      refine k_iconst C dX7_layWho_128 129 rfl ?_
      refine k_aload_n C dX7_layWho_129 0 rfl rfl 130 rfl ?_
      refine k_get C dX7_layWho_130 0 rfl (ci := 7) rfl hin_X7_layWho_7 19 (by decide) (List.mem_of_getElem? (i := 7) rfl) rfl 133 rfl ?_
      refine k_iload C dX7_layWho_133 4 rfl 135 rfl ?_
      obtain ⟨hi135, h⟩ := h
      refine k_iaload C dX7_layWho_135 13 0 rfl rfl (by decide) hi135 136 rfl ?_
      refine k_ishl C dX7_layWho_136 137 rfl ?_
      refine k_ior C dX7_layWho_137 138 rfl ?_
      refine k_istore C dX7_layWho_138 (by decide) [(4, .int (iI (ior x4 (ishl 1 (Z_h x5))))), (0, .ref (qh 0)), (1, .int (iI x1)), (2, .int (iI x2)), (5, .int (iI x5))] rfl 140 rfl ?_
      refine k_iinc (j := 4) C dX7_layWho_140 rfl (by decide) [(5, .int (iI (x5 + 1))), (4, .int (iI (ior x4 (ishl 1 (Z_h x5))))), (0, .ref (qh 0)), (1, .int (iI x1)), (2, .int (iI x2))] rfl 143 rfl ?_
      refine k_goto C dX7_layWho_143 120 (by decide) ?_
      refine k_lv C [2, 3, 4, 1, 0] [(0, .ref (qh 0)), (1, .int (iI x1)), (2, .int (iI x2)), (4, .int (iI (ior x4 (ishl 1 (Z_h x5))))), (5, .int (iI (x5 + 1)))] rfl ?_
      exact ih x1 x2 (ior x4 (ishl 1 (Z_h x5))) (x5 + 1) N_h L_h Z_h R_h h hK_146
set_option maxHeartbeats 4000000 in
set_option maxRecDepth 20000 in
theorem w_X7_layWho_181 {l : Launch} {D : va_G} {cI cJ cZ : ClassId} {A : Nat → Prop} {K : KT} {qh : Nat → Nat} {B_h : gMB} {P_h : gMP} {E_h : gME} {V_h : gMV} {G_h : gMG} {D_h : gMD} {O_h : gMO} {I_h : gMI} {Q : gMN → gML → gMZ → gMR → Prop} {K_217 : Int → Int → gMN → gML → gMZ → gMR → Prop} (C : KC cX7_layWho yX7_layWho.cls wsX7_layWho rm_X7_layWho 6 D (kT cI cJ cZ) A l false (rp_X7_layWho cI cJ cZ qh B_h P_h E_h V_h G_h D_h O_h I_h Q) 0 0 K) : ∀ (n : Nat) (x1 : Int) (x2 : Int) (x5 : Int) (N_h : gMN) (L_h : gML) (Z_h : gMZ) (R_h : gMR), wp_X7_layWho_181 B_h K_217 Q n x1 x2 x5 N_h L_h Z_h R_h → (∀ (x1 : Int) (x2 : Int) (N_h : gMN) (L_h : gML) (Z_h : gMZ) (R_h : gMR), K_217 x1 x2 N_h L_h Z_h R_h → K 0 0 217 [(0, .ref (qh 0)), (1, .int (iI x1)), (2, .int (iI x2))] [] ((wdM cI cJ cZ qh B_h P_h N_h L_h E_h V_h G_h D_h O_h Z_h R_h I_h))) → K 0 0 181 [(0, .ref (qh 0)), (1, .int (iI x1)), (2, .int (iI x2)), (5, .int (iI x5))] [] ((wdM cI cJ cZ qh B_h P_h N_h L_h E_h V_h G_h D_h O_h Z_h R_h I_h)) := by
  intro n
  induction n with
  | zero => intro x1 x2 x5 N_h L_h Z_h R_h h; exact h.elim
  | succ n ih =>
    intro x1 x2 x5 N_h L_h Z_h R_h h hK_217
    refine k_iload C dX7_layWho_181 3 rfl 183 rfl ?_
    refine k_aload_n C dX7_layWho_183 0 rfl rfl 184 rfl ?_
    refine k_get C dX7_layWho_184 0 rfl (ci := 7) rfl hin_X7_layWho_7 0 (by decide) (List.mem_of_getElem? (i := 8) rfl) rfl 187 rfl ?_
    obtain ⟨hr187a, hr187b, h⟩ := h
    obtain ⟨ht, hf⟩ := h
    refine k_icmp_ge C dX7_layWho_187 ⟨hr187a, hr187b⟩ 217 190 (by decide) rfl (fun hc187 => ?_) (fun hc187 => ?_)
    · have h := ht hc187; clear ht hf
      refine k_lv C [0, 1, 2] [(0, .ref (qh 0)), (1, .int (iI x1)), (2, .int (iI x2))] rfl ?_
      exact hK_217 x1 x2 N_h L_h Z_h R_h h
    · have h := hf hc187; clear ht hf
      refine k_aload_n C dX7_layWho_190 0 rfl rfl 191 rfl ?_
      refine k_get C dX7_layWho_191 0 rfl (ci := 7) rfl hin_X7_layWho_7 23 (by decide) (List.mem_of_getElem? (i := 4) rfl) rfl 194 rfl ?_
      refine k_bipush C dX7_layWho_194 (by decide) 196 rfl ?_
      refine k_iload C dX7_layWho_196 3 rfl 198 rfl ?_
      refine k_imul C dX7_layWho_198 199 rfl ?_
      refine k_aload_n C dX7_layWho_199 0 rfl rfl 200 rfl ?_
      refine k_iload C dX7_layWho_200 3 rfl 202 rfl ?_
      have hM := c_X7_heightOf (l := l) (D := D) (cI := cI) (cJ := cJ) (cZ := cZ) qh B_h P_h N_h L_h E_h V_h G_h D_h O_h Z_h R_h I_h x5 _ h
      refine k_callV C dX7_layWho_202 hM gX7_layWho_X7_heightOf rfl sg_X7_heightOf 7 rfl rfl rfl (Nat.le_of_ble_eq_true rfl) ⟨⟨rfl, rfl⟩, by decide, by decide⟩ ⟨Nat.le_refl 0, Nat.le_refl 0⟩ [0, 1, 2, 3, 4, 5, 6, 7, 8, 9, 10, 11, 12, 13, 14, 15, 16] [] rfl rfl rfl rfl (by decide) 0 0 ⟨rfl, rfl⟩ 205 rfl (fun v w1 hq202 => ?_)
      obtain ⟨r202, rfl, rfl, h⟩ := hq202
      refine k_perm C [0, 1, 2, 3, 4, 5, 6, 7, 8, 9, 10, 11, 12, 13, 14, 15, 16] [.int (iI r202), .int (iI (11 * x5)), .ref (qh 14)] ((wdM cI cJ cZ qh B_h P_h N_h L_h E_h V_h G_h D_h O_h Z_h R_h I_h)) rfl rfl rfl ?_
      refine k_iadd C dX7_layWho_205 206 rfl ?_
      refine k_dup2 C dX7_layWho_206 rfl rfl 207 rfl ?_
      obtain ⟨hi207, h⟩ := h
      refine k_iaload C dX7_layWho_207 14 0 rfl rfl (by decide) hi207 208 rfl ?_
      refine k_iconst C dX7_layWho_208 209 rfl ?_
      refine k_iadd C dX7_layWho_209 210 rfl ?_
      refine k_iastore C dX7_layWho_210 14 0 rfl rfl (by decide) hi207 ((wdM cI cJ cZ qh B_h P_h N_h L_h E_h V_h G_h D_h O_h Z_h (R_h.1, R_h.2.1, R_h.2.2.1, aset R_h.2.2.2 ((11 * x5) + r202) ((R_h.2.2.2 ((11 * x5) + r202)) + 1)) I_h)) rfl 211 rfl ?_
      refine k_iinc (j := 3) C dX7_layWho_211 rfl (by decide) [(5, .int (iI (x5 + 1))), (0, .ref (qh 0)), (1, .int (iI x1)), (2, .int (iI x2))] rfl 214 rfl ?_
      refine k_goto C dX7_layWho_214 181 (by decide) ?_
      refine k_lv C [1, 2, 3, 0] [(0, .ref (qh 0)), (1, .int (iI x1)), (2, .int (iI x2)), (5, .int (iI (x5 + 1)))] rfl ?_
      exact ih x1 x2 (x5 + 1) N_h L_h Z_h (R_h.1, R_h.2.1, R_h.2.2.1, aset R_h.2.2.2 ((11 * x5) + r202) ((R_h.2.2.2 ((11 * x5) + r202)) + 1)) h hK_217
set_option maxHeartbeats 4000000 in
set_option maxRecDepth 20000 in
theorem w_X7_layWho_110 {l : Launch} {D : va_G} {cI cJ cZ : ClassId} {A : Nat → Prop} {K : KT} {qh : Nat → Nat} {B_h : gMB} {P_h : gMP} {E_h : gME} {V_h : gMV} {G_h : gMG} {D_h : gMD} {O_h : gMO} {I_h : gMI} {Q : gMN → gML → gMZ → gMR → Prop} {K_40 : Int → Int → gMN → gML → gMZ → gMR → Prop} (C : KC cX7_layWho yX7_layWho.cls wsX7_layWho rm_X7_layWho 6 D (kT cI cJ cZ) A l false (rp_X7_layWho cI cJ cZ qh B_h P_h E_h V_h G_h D_h O_h I_h Q) 0 0 K) : ∀ (x1 : Int) (x2 : Int) (x3 : Int) (N_h : gMN) (L_h : gML) (Z_h : gMZ) (R_h : gMR), wp_X7_layWho_110 B_h K_40 Q x1 x2 x3 N_h L_h Z_h R_h → (∀ (x1 : Int) (x2 : Int) (N_h : gMN) (L_h : gML) (Z_h : gMZ) (R_h : gMR), K_40 x1 x2 N_h L_h Z_h R_h → K 0 0 40 [(0, .ref (qh 0)), (1, .int (iI x1)), (2, .int (iI x2))] [] ((wdM cI cJ cZ qh B_h P_h N_h L_h E_h V_h G_h D_h O_h Z_h R_h I_h))) → K 0 0 110 [(0, .ref (qh 0)), (1, .int (iI x1)), (2, .int (iI x2)), (3, .int (iI x3))] [] ((wdM cI cJ cZ qh B_h P_h N_h L_h E_h V_h G_h D_h O_h Z_h R_h I_h)) := by
  intro x1 x2 x3 N_h L_h Z_h R_h h hK_40
  refine k_iload_n C dX7_layWho_110 3 rfl rfl 111 rfl ?_
  obtain ⟨hr111a, h⟩ := h
  obtain ⟨ht, hf⟩ := h
  refine k_if_eq C dX7_layWho_111 hr111a 217 114 (by decide) rfl (fun hc111 => ?_) (fun hc111 => ?_)
  · have h := ht hc111; clear ht hf
    refine k_iinc (j := 2) C dX7_layWho_217 rfl (by decide) [(2, .int (iI (x2 + 1))), (0, .ref (qh 0)), (1, .int (iI x1)), (3, .int (iI x3))] rfl 220 rfl ?_
    refine k_goto C dX7_layWho_220 40 (by decide) ?_
    refine k_lv C [1, 2, 0] [(0, .ref (qh 0)), (1, .int (iI x1)), (2, .int (iI (x2 + 1)))] rfl ?_
    exact hK_40 x1 (x2 + 1) N_h L_h Z_h R_h h
  · have h := hf hc111; clear ht hf
    refine k_iconst C dX7_layWho_114 115 rfl ?_
    refine k_istore C dX7_layWho_115 (by decide) [(4, .int (iI 0)), (0, .ref (qh 0)), (1, .int (iI x1)), (2, .int (iI x2)), (3, .int (iI x3))] rfl 117 rfl ?_
    refine k_iconst C dX7_layWho_117 118 rfl ?_
    refine k_istore C dX7_layWho_118 (by decide) [(5, .int (iI 0)), (4, .int (iI 0)), (0, .ref (qh 0)), (1, .int (iI x1)), (2, .int (iI x2)), (3, .int (iI x3))] rfl 120 rfl ?_
    refine k_lv C [2, 3, 4, 1, 0] [(0, .ref (qh 0)), (1, .int (iI x1)), (2, .int (iI x2)), (4, .int (iI 0)), (5, .int (iI 0))] rfl ?_
    obtain ⟨m120, h⟩ := h
    refine w_X7_layWho_120 C m120 x1 x2 0 0 N_h L_h Z_h R_h h (fun x1 x2 x4 N_h L_h Z_h R_h h => ?_)
    · refine k_aload_n C dX7_layWho_146 0 rfl rfl 147 rfl ?_
      refine k_dup C dX7_layWho_147 rfl 148 rfl ?_
      refine k_get C dX7_layWho_148 0 rfl (ci := 7) rfl hin_X7_layWho_7 20 (by decide) (List.mem_of_getElem? (i := 1) rfl) rfl 151 rfl ?_
      refine k_iconst C dX7_layWho_151 152 rfl ?_
      refine k_iadd C dX7_layWho_152 153 rfl ?_
      refine k_put C dX7_layWho_153 0 rfl (ci := 7) rfl hin_X7_layWho_7 tyX7_ok nmX7 20 (by decide) (List.mem_of_getElem? (i := 1) rfl) rfl rfl rfl (Nat.le_of_ble_eq_true rfl) ((wdM cI cJ cZ qh B_h P_h N_h L_h E_h V_h G_h D_h O_h Z_h (R_h.1 + 1, R_h.2.1, R_h.2.2.1, R_h.2.2.2) I_h)) rfl 156 rfl ?_
      refine k_aload_n C dX7_layWho_156 0 rfl rfl 157 rfl ?_
      refine k_dup C dX7_layWho_157 rfl 158 rfl ?_
      refine k_get C dX7_layWho_158 0 rfl (ci := 7) rfl hin_X7_layWho_7 21 (by decide) (List.mem_of_getElem? (i := 2) rfl) rfl 161 rfl ?_
      refine k_iload C dX7_layWho_161 3 rfl 163 rfl ?_
      refine k_ior C dX7_layWho_163 164 rfl ?_
      refine k_put C dX7_layWho_164 0 rfl (ci := 7) rfl hin_X7_layWho_7 tyX7_ok nmX7 21 (by decide) (List.mem_of_getElem? (i := 2) rfl) rfl rfl rfl (Nat.le_of_ble_eq_true rfl) ((wdM cI cJ cZ qh B_h P_h N_h L_h E_h V_h G_h D_h O_h Z_h (R_h.1 + 1, ior R_h.2.1 x4, R_h.2.2.1, R_h.2.2.2) I_h)) rfl 167 rfl ?_
      refine k_aload_n C dX7_layWho_167 0 rfl rfl 168 rfl ?_
      refine k_dup C dX7_layWho_168 rfl 169 rfl ?_
      refine k_get C dX7_layWho_169 0 rfl (ci := 7) rfl hin_X7_layWho_7 22 (by decide) (List.mem_of_getElem? (i := 3) rfl) rfl 172 rfl ?_
      refine k_iload C dX7_layWho_172 3 rfl 174 rfl ?_
      refine k_iand C dX7_layWho_174 175 rfl ?_
      refine k_put C dX7_layWho_175 0 rfl (ci := 7) rfl hin_X7_layWho_7 tyX7_ok nmX7 22 (by decide) (List.mem_of_getElem? (i := 3) rfl) rfl rfl rfl (Nat.le_of_ble_eq_true rfl) ((wdM cI cJ cZ qh B_h P_h N_h L_h E_h V_h G_h D_h O_h Z_h (R_h.1 + 1, ior R_h.2.1 x4, iand R_h.2.2.1 x4, R_h.2.2.2) I_h)) rfl 178 rfl ?_
      refine k_iconst C dX7_layWho_178 179 rfl ?_
      refine k_istore C dX7_layWho_179 (by decide) [(5, .int (iI 0)), (0, .ref (qh 0)), (1, .int (iI x1)), (2, .int (iI x2)), (4, .int (iI x4))] rfl 181 rfl ?_
      refine k_lv C [1, 2, 3, 0] [(0, .ref (qh 0)), (1, .int (iI x1)), (2, .int (iI x2)), (5, .int (iI 0))] rfl ?_
      obtain ⟨m181, h⟩ := h
      refine w_X7_layWho_181 C m181 x1 x2 0 N_h L_h Z_h (R_h.1 + 1, ior R_h.2.1 x4, iand R_h.2.2.1 x4, R_h.2.2.2) h (fun x1 x2 N_h L_h Z_h R_h h => ?_)
      · refine k_iinc (j := 2) C dX7_layWho_217 rfl (by decide) [(2, .int (iI (x2 + 1))), (0, .ref (qh 0)), (1, .int (iI x1))] rfl 220 rfl ?_
        refine k_goto C dX7_layWho_220 40 (by decide) ?_
        refine k_lv C [1, 2, 0] [(0, .ref (qh 0)), (1, .int (iI x1)), (2, .int (iI (x2 + 1)))] rfl ?_
        exact hK_40 x1 (x2 + 1) N_h L_h Z_h R_h h
set_option maxHeartbeats 4000000 in
set_option maxRecDepth 20000 in
theorem w_X7_layWho_40 {l : Launch} {D : va_G} {cI cJ cZ : ClassId} {A : Nat → Prop} {K : KT} {qh : Nat → Nat} {B_h : gMB} {P_h : gMP} {E_h : gME} {V_h : gMV} {G_h : gMG} {D_h : gMD} {O_h : gMO} {I_h : gMI} {Q : gMN → gML → gMZ → gMR → Prop} {K_223 : gMN → gML → gMZ → gMR → Prop} (C : KC cX7_layWho yX7_layWho.cls wsX7_layWho rm_X7_layWho 6 D (kT cI cJ cZ) A l false (rp_X7_layWho cI cJ cZ qh B_h P_h E_h V_h G_h D_h O_h I_h Q) 0 0 K) : ∀ (n : Nat) (x1 : Int) (x2 : Int) (N_h : gMN) (L_h : gML) (Z_h : gMZ) (R_h : gMR), wp_X7_layWho_40 B_h P_h G_h K_223 Q n x1 x2 N_h L_h Z_h R_h → (∀ (N_h : gMN) (L_h : gML) (Z_h : gMZ) (R_h : gMR), K_223 N_h L_h Z_h R_h → K 0 0 223 [] [] ((wdM cI cJ cZ qh B_h P_h N_h L_h E_h V_h G_h D_h O_h Z_h R_h I_h))) → K 0 0 40 [(0, .ref (qh 0)), (1, .int (iI x1)), (2, .int (iI x2))] [] ((wdM cI cJ cZ qh B_h P_h N_h L_h E_h V_h G_h D_h O_h Z_h R_h I_h)) := by
  intro n
  induction n with
  | zero => intro x1 x2 N_h L_h Z_h R_h h; exact h.elim
  | succ n ih =>
    intro x1 x2 N_h L_h Z_h R_h h hK_223
    refine k_iload_n C dX7_layWho_40 2 rfl rfl 41 rfl ?_
    refine k_iload_n C dX7_layWho_41 1 rfl rfl 42 rfl ?_
    have hM := c_X7_codes (l := l) (D := D) (cI := cI) (cJ := cJ) (cZ := cZ) x1 _ h
    refine k_callS C dX7_layWho_42 hM gX7_layWho_X7_codes rfl sg_X7_codes rfl (Nat.le_of_ble_eq_true rfl) ⟨⟨rfl, rfl⟩, by decide, by decide⟩ ⟨Nat.le_refl 0, Nat.le_refl 0⟩ [] [0, 1, 2, 3, 4, 5, 6, 7, 8, 9, 10, 11, 12, 13, 14, 15, 16] rfl rfl rfl rfl (by decide) 0 0 ⟨rfl, rfl⟩ 45 rfl (fun v w1 hq42 => ?_)
    obtain ⟨r42, rfl, rfl, h⟩ := hq42
    refine k_perm C [0, 1, 2, 3, 4, 5, 6, 7, 8, 9, 10, 11, 12, 13, 14, 15, 16] [.int (iI r42), .int (iI x2)] ((wdM cI cJ cZ qh B_h P_h N_h L_h E_h V_h G_h D_h O_h Z_h R_h I_h)) rfl rfl rfl ?_
    obtain ⟨hr45a, hr45b, h⟩ := h
    obtain ⟨ht, hf⟩ := h
    refine k_icmp_ge C dX7_layWho_45 ⟨hr45a, hr45b⟩ 223 48 (by decide) rfl (fun hc45 => ?_) (fun hc45 => ?_)
    · have h := ht hc45; clear ht hf
      refine k_lv C [] [] rfl ?_
      exact hK_223 N_h L_h Z_h R_h h
    · have h := hf hc45; clear ht hf
      refine k_aload_n C dX7_layWho_48 0 rfl rfl 49 rfl ?_
      refine k_iload_n C dX7_layWho_49 2 rfl rfl 50 rfl ?_
      refine k_iload_n C dX7_layWho_50 1 rfl rfl 51 rfl ?_
      have hM := c_X7_putsBy (l := l) (D := D) (cI := cI) (cJ := cJ) (cZ := cZ) qh B_h P_h N_h L_h E_h V_h G_h D_h O_h Z_h R_h I_h x2 x1 _ h
      refine k_callV C dX7_layWho_51 hM gX7_layWho_X7_putsBy rfl sg_X7_putsBy 7 rfl rfl rfl (Nat.le_of_ble_eq_true rfl) ⟨⟨rfl, rfl⟩, by decide, by decide⟩ ⟨Nat.le_refl 0, Nat.le_refl 0⟩ [0, 1, 2, 3, 4, 5, 6, 7, 8, 9, 10, 11, 12, 13, 14, 15, 16] [] rfl rfl rfl rfl (by decide) 0 0 ⟨rfl, rfl⟩ 54 rfl (fun v w1 hq51 => ?_)
      obtain ⟨r51, N_h_51, L_h_51, Z_h_51, rfl, rfl, hb51, h⟩ := hq51
      refine k_perm C [0, 1, 2, 3, 4, 5, 6, 7, 8, 9, 10, 11, 12, 13, 14, 15, 16] [.int (iI r51)] ((wdM cI cJ cZ qh B_h P_h N_h_51 L_h_51 E_h V_h G_h D_h O_h Z_h_51 R_h I_h)) rfl rfl rfl ?_
      refine k_istore_n C dX7_layWho_54 rfl (by decide) [(3, .int (iI r51)), (0, .ref (qh 0)), (1, .int (iI x1)), (2, .int (iI x2))] rfl 55 rfl ?_
      refine k_iconst C dX7_layWho_55 56 rfl ?_
      refine k_istore C dX7_layWho_56 (by decide) [(4, .int (iI 0)), (3, .int (iI r51)), (0, .ref (qh 0)), (1, .int (iI x1)), (2, .int (iI x2))] rfl 58 rfl ?_
      refine k_lv C [2, 3, 4, 1, 0] [(0, .ref (qh 0)), (1, .int (iI x1)), (2, .int (iI x2)), (3, .int (iI r51)), (4, .int (iI 0))] rfl ?_
      obtain ⟨m58, h⟩ := h
      refine w_X7_layWho_58 C m58 x1 x2 r51 0 N_h_51 L_h_51 Z_h_51 R_h h (fun x1 x2 x3 N_h L_h Z_h R_h h => ?_)
      · refine w_X7_layWho_110 C x1 x2 x3 N_h L_h Z_h R_h h (fun x1 x2 N_h L_h Z_h R_h h => ?_)
        · exact ih x1 x2 N_h L_h Z_h R_h h hK_223
set_option maxHeartbeats 4000000 in
set_option maxRecDepth 20000 in
theorem c_X7_layWho {l : Launch} {D : va_G} {cI cJ cZ : ClassId} (qh : Nat → Nat) (B_h : gMB) (P_h : gMP) (N_h : gMN) (L_h : gML) (E_h : gME) (V_h : gMV) (G_h : gMG) (D_h : gMD) (O_h : gMO) (Z_h : gMZ) (R_h : gMR) (I_h : gMI) (x1 : Int) (Q : gMN → gML → gMZ → gMR → Prop) (h : wp_X7_layWho B_h P_h N_h L_h G_h Z_h R_h x1 Q) : KM l D (kT cI cJ cZ) 0 0 yX7_layWho wsX7_layWho rm_X7_layWho [.ref (qh 0), .int (iI x1)] ((wdM cI cJ cZ qh B_h P_h N_h L_h E_h V_h G_h D_h O_h Z_h R_h I_h)) (rp_X7_layWho cI cJ cZ qh B_h P_h E_h V_h G_h D_h O_h I_h Q) := by
  refine KM_intro (lv := [(0, .ref (qh 0)), (1, .int (iI x1))]) false rfl (by decide) (Nat.le_of_ble_eq_true rfl) rfl (fun h => absurd h (by decide)) (fun v ws hq => by obtain ⟨N_h, L_h, Z_h, R_h, rfl, rfl, _⟩ := hq; exact Or.inl ⟨rfl, rfl⟩) (fun A K C => ?_)
  refine k_aload_n C dX7_layWho_0 0 rfl rfl 1 rfl ?_
  refine k_iconst C dX7_layWho_1 2 rfl ?_
  refine k_put C dX7_layWho_2 0 rfl (ci := 7) rfl hin_X7_layWho_7 tyX7_ok nmX7 20 (by decide) (List.mem_of_getElem? (i := 1) rfl) rfl rfl rfl (Nat.le_of_ble_eq_true rfl) ((wdM cI cJ cZ qh B_h P_h N_h L_h E_h V_h G_h D_h O_h Z_h (0, R_h.2.1, R_h.2.2.1, R_h.2.2.2) I_h)) rfl 5 rfl ?_
  refine k_aload_n C dX7_layWho_5 0 rfl rfl 6 rfl ?_
  refine k_iconst C dX7_layWho_6 7 rfl ?_
  refine k_put C dX7_layWho_7 0 rfl (ci := 7) rfl hin_X7_layWho_7 tyX7_ok nmX7 21 (by decide) (List.mem_of_getElem? (i := 2) rfl) rfl rfl rfl (Nat.le_of_ble_eq_true rfl) ((wdM cI cJ cZ qh B_h P_h N_h L_h E_h V_h G_h D_h O_h Z_h (0, 0, R_h.2.2.1, R_h.2.2.2) I_h)) rfl 10 rfl ?_
  refine k_aload_n C dX7_layWho_10 0 rfl rfl 11 rfl ?_
  refine k_sipush C dX7_layWho_11 (by decide) 14 rfl ?_
  refine k_put C dX7_layWho_14 0 rfl (ci := 7) rfl hin_X7_layWho_7 tyX7_ok nmX7 22 (by decide) (List.mem_of_getElem? (i := 3) rfl) rfl rfl rfl (Nat.le_of_ble_eq_true rfl) ((wdM cI cJ cZ qh B_h P_h N_h L_h E_h V_h G_h D_h O_h Z_h (0, 0, 1023, R_h.2.2.2) I_h)) rfl 17 rfl ?_
  refine k_iconst C dX7_layWho_17 18 rfl ?_
  refine k_istore_n C dX7_layWho_18 rfl (by decide) [(2, .int (iI 0)), (0, .ref (qh 0)), (1, .int (iI x1))] rfl 19 rfl ?_
  refine k_lv C [1, 2, 0] [(0, .ref (qh 0)), (1, .int (iI x1)), (2, .int (iI 0))] rfl ?_
  obtain ⟨m19, h⟩ := h
  refine w_X7_layWho_19 C m19 x1 0 N_h L_h Z_h (0, 0, 1023, R_h.2.2.2) h (fun x1 N_h L_h Z_h R_h h => ?_)
  · refine k_iconst C dX7_layWho_38 39 rfl ?_
    refine k_istore_n C dX7_layWho_39 rfl (by decide) [(2, .int (iI 0)), (0, .ref (qh 0)), (1, .int (iI x1))] rfl 40 rfl ?_
    refine k_lv C [1, 2, 0] [(0, .ref (qh 0)), (1, .int (iI x1)), (2, .int (iI 0))] rfl ?_
    obtain ⟨m40, h⟩ := h
    refine w_X7_layWho_40 C m40 x1 0 N_h L_h Z_h R_h h (fun N_h L_h Z_h R_h h => ?_)
    · exact k_vret C dX7_layWho_223 ⟨N_h, L_h, Z_h, R_h, rfl, rfl, h⟩

/-! X7_who -/
abbrev rm_X7_who : Room := { frames := 8, cells := 0, slots := 0, locals := 192 }
theorem sg_X7_who : yX7_who.cls ≠ "java/lang/invoke/MethodHandle" ∧ yX7_who.cls ≠ "java/lang/invoke/VarHandle" ∧ (parseMethodDescriptor yX7_who.desc).map (fun d => d.parameters.length) = some 2 := by decide +kernel
theorem hin_X7_who_7 : ∀ w ∈ wsX70, w ∈ wsX7_who := fun _ h => List.mem_cons_of_mem _ (List.mem_append_right _ h)
def rp_X7_who (cI cJ cZ : ClassId) (qh : Nat → Nat) (B_h : gMB) (P_h : gMP) (E_h : gME) (V_h : gMV) (G_h : gMG) (D_h : gMD) (O_h : gMO) (I_h : gMI) (Q : Int → gMN → gML → gMZ → gMR → Prop) : Option Value → va_W → Prop := fun v w1 => ∃ (r : Int) (N_h : gMN) (L_h : gML) (Z_h : gMZ) (R_h : gMR), v = some (.int (iI r)) ∧ w1 = (wdM cI cJ cZ qh B_h P_h N_h L_h E_h V_h G_h D_h O_h Z_h R_h I_h) ∧ Q r N_h L_h Z_h R_h
def wp_X7_who (B_h : gMB) (P_h : gMP) (N_h : gMN) (L_h : gML) (G_h : gMG) (Z_h : gMZ) (R_h : gMR) (x1 : Int) (x2 : Int) (Q : Int → gMN → gML → gMZ → gMR → Prop) : Prop :=
    wp_X7_in x1 0 2 (fun (r3 : Int) => ((r3 = 0 → Q (-2) N_h L_h Z_h R_h) ∧ (¬ (r3 = 0) → wp_X7_in x2 0 2 (fun (r12 : Int) => ((¬ r12 = 0 → wp_X7_layWho B_h P_h N_h L_h G_h Z_h R_h x1 (fun (N_h_23 : gMN) (L_h_23 : gML) (Z_h_23 : gMZ) (R_h_23 : gMR) => rI x2 ∧ ((¬ x2 = 0 → ((¬ x2 = 1 → rI R_h_23.1 ∧ ((¬ R_h_23.1 = 0 → Q R_h_23.2.2.1 N_h_23 L_h_23 Z_h_23 R_h_23) ∧ (¬ (¬ R_h_23.1 = 0) → Q 0 N_h_23 L_h_23 Z_h_23 R_h_23))) ∧ (¬ (¬ x2 = 1) → Q R_h_23.2.1 N_h_23 L_h_23 Z_h_23 R_h_23))) ∧ (¬ (¬ x2 = 0) → Q R_h_23.1 N_h_23 L_h_23 Z_h_23 R_h_23)))) ∧ (¬ (¬ r12 = 0) → Q (-2) N_h L_h Z_h R_h))))))

set_option maxHeartbeats 4000000 in
set_option maxRecDepth 20000 in
theorem c_X7_who {l : Launch} {D : va_G} {cI cJ cZ : ClassId} (qh : Nat → Nat) (B_h : gMB) (P_h : gMP) (N_h : gMN) (L_h : gML) (E_h : gME) (V_h : gMV) (G_h : gMG) (D_h : gMD) (O_h : gMO) (Z_h : gMZ) (R_h : gMR) (I_h : gMI) (x1 : Int) (x2 : Int) (Q : Int → gMN → gML → gMZ → gMR → Prop) (h : wp_X7_who B_h P_h N_h L_h G_h Z_h R_h x1 x2 Q) : KM l D (kT cI cJ cZ) 0 0 yX7_who wsX7_who rm_X7_who [.ref (qh 0), .int (iI x1), .int (iI x2)] ((wdM cI cJ cZ qh B_h P_h N_h L_h E_h V_h G_h D_h O_h Z_h R_h I_h)) (rp_X7_who cI cJ cZ qh B_h P_h E_h V_h G_h D_h O_h I_h Q) := by
  refine KM_intro (lv := [(0, .ref (qh 0)), (1, .int (iI x1)), (2, .int (iI x2))]) false rfl (by decide) (Nat.le_of_ble_eq_true rfl) rfl (fun h => absurd h (by decide)) (fun v ws hq => by obtain ⟨r, N_h, L_h, Z_h, R_h, rfl, rfl, _⟩ := hq; exact Or.inr (Or.inl ⟨rfl, _, rfl⟩)) (fun A K C => ?_)
  refine k_iload_n C dX7_who_0 1 rfl rfl 1 rfl ?_
  refine k_iconst C dX7_who_1 2 rfl ?_
  refine k_iconst C dX7_who_2 3 rfl ?_
  have hM := c_X7_in (l := l) (D := D) (cI := cI) (cJ := cJ) (cZ := cZ) x1 0 2 _ h
  refine k_callS C dX7_who_3 hM gX7_who_X7_in rfl sg_X7_in rfl (Nat.le_of_ble_eq_true rfl) ⟨⟨rfl, rfl⟩, by decide, by decide⟩ ⟨Nat.le_refl 0, Nat.le_refl 0⟩ [] [0, 1, 2, 3, 4, 5, 6, 7, 8, 9, 10, 11, 12, 13, 14, 15, 16] rfl rfl rfl rfl (by decide) 0 0 ⟨rfl, rfl⟩ 6 rfl (fun v w1 hq3 => ?_)
  obtain ⟨r3, rfl, rfl, hb3, h⟩ := hq3
  refine k_perm C [0, 1, 2, 3, 4, 5, 6, 7, 8, 9, 10, 11, 12, 13, 14, 15, 16] [.int (iI r3)] ((wdM cI cJ cZ qh B_h P_h N_h L_h E_h V_h G_h D_h O_h Z_h R_h I_h)) rfl rfl rfl ?_
  obtain ⟨ht, hf⟩ := h
  refine k_if_eq C dX7_who_6 (by rcases hb3 with rfl | rfl <;> decide) 18 9 (by decide) rfl (fun hc6 => ?_) (fun hc6 => ?_)
  · have h := ht hc6; clear ht hf
    refine k_bipush C dX7_who_18 (by decide) 20 rfl ?_
    exact k_iret C dX7_who_20 ⟨(-2), N_h, L_h, Z_h, R_h, rfl, rfl, h⟩
  · have h := hf hc6; clear ht hf
    refine k_iload_n C dX7_who_9 2 rfl rfl 10 rfl ?_
    refine k_iconst C dX7_who_10 11 rfl ?_
    refine k_iconst C dX7_who_11 12 rfl ?_
    have hM := c_X7_in (l := l) (D := D) (cI := cI) (cJ := cJ) (cZ := cZ) x2 0 2 _ h
    refine k_callS C dX7_who_12 hM gX7_who_X7_in rfl sg_X7_in rfl (Nat.le_of_ble_eq_true rfl) ⟨⟨rfl, rfl⟩, by decide, by decide⟩ ⟨Nat.le_refl 0, Nat.le_refl 0⟩ [] [0, 1, 2, 3, 4, 5, 6, 7, 8, 9, 10, 11, 12, 13, 14, 15, 16] rfl rfl rfl rfl (by decide) 0 0 ⟨rfl, rfl⟩ 15 rfl (fun v w1 hq12 => ?_)
    obtain ⟨r12, rfl, rfl, hb12, h⟩ := hq12
    refine k_perm C [0, 1, 2, 3, 4, 5, 6, 7, 8, 9, 10, 11, 12, 13, 14, 15, 16] [.int (iI r12)] ((wdM cI cJ cZ qh B_h P_h N_h L_h E_h V_h G_h D_h O_h Z_h R_h I_h)) rfl rfl rfl ?_
    obtain ⟨ht, hf⟩ := h
    refine k_if_ne C dX7_who_15 (by rcases hb12 with rfl | rfl <;> decide) 21 18 (by decide) rfl (fun hc15 => ?_) (fun hc15 => ?_)
    · have h := ht hc15; clear ht hf
      refine k_aload_n C dX7_who_21 0 rfl rfl 22 rfl ?_
      refine k_iload_n C dX7_who_22 1 rfl rfl 23 rfl ?_
      have hM := c_X7_layWho (l := l) (D := D) (cI := cI) (cJ := cJ) (cZ := cZ) qh B_h P_h N_h L_h E_h V_h G_h D_h O_h Z_h R_h I_h x1 _ h
      refine k_callV C dX7_who_23 hM gX7_who_X7_layWho rfl sg_X7_layWho 7 rfl rfl rfl (Nat.le_of_ble_eq_true rfl) ⟨⟨rfl, rfl⟩, by decide, by decide⟩ ⟨Nat.le_refl 0, Nat.le_refl 0⟩ [0, 1, 2, 3, 4, 5, 6, 7, 8, 9, 10, 11, 12, 13, 14, 15, 16] [] rfl rfl rfl rfl (by decide) 0 0 ⟨rfl, rfl⟩ 26 rfl (fun v w1 hq23 => ?_)
      obtain ⟨N_h_23, L_h_23, Z_h_23, R_h_23, rfl, rfl, h⟩ := hq23
      refine k_perm C [0, 1, 2, 3, 4, 5, 6, 7, 8, 9, 10, 11, 12, 13, 14, 15, 16] [] ((wdM cI cJ cZ qh B_h P_h N_h_23 L_h_23 E_h V_h G_h D_h O_h Z_h_23 R_h_23 I_h)) rfl rfl rfl ?_
      refine k_iload_n C dX7_who_26 2 rfl rfl 27 rfl ?_
      obtain ⟨hr27a, h⟩ := h
      obtain ⟨ht, hf⟩ := h
      refine k_if_ne C dX7_who_27 hr27a 37 30 (by decide) rfl (fun hc27 => ?_) (fun hc27 => ?_)
      · have h := ht hc27; clear ht hf
        refine k_iload_n C dX7_who_37 2 rfl rfl 38 rfl ?_
        refine k_iconst C dX7_who_38 39 rfl ?_
        obtain ⟨ht, hf⟩ := h
        refine k_icmp_ne C dX7_who_39 ⟨hr27a, (by decide)⟩ 49 42 (by decide) rfl (fun hc39 => ?_) (fun hc39 => ?_)
        · have h := ht hc39; clear ht hf
          refine k_aload_n C dX7_who_49 0 rfl rfl 50 rfl ?_
          refine k_get C dX7_who_50 0 rfl (ci := 7) rfl hin_X7_who_7 20 (by decide) (List.mem_of_getElem? (i := 1) rfl) rfl 53 rfl ?_
          obtain ⟨hr53a, h⟩ := h
          obtain ⟨ht, hf⟩ := h
          refine k_if_ne C dX7_who_53 hr53a 60 56 (by decide) rfl (fun hc53 => ?_) (fun hc53 => ?_)
          · have h := ht hc53; clear ht hf
            refine k_aload_n C dX7_who_60 0 rfl rfl 61 rfl ?_
            refine k_get C dX7_who_61 0 rfl (ci := 7) rfl hin_X7_who_7 22 (by decide) (List.mem_of_getElem? (i := 3) rfl) rfl 64 rfl ?_
            exact k_iret C dX7_who_64 ⟨R_h_23.2.2.1, N_h_23, L_h_23, Z_h_23, R_h_23, rfl, rfl, h⟩
          · have h := hf hc53; clear ht hf
            refine k_iconst C dX7_who_56 57 rfl ?_
            refine k_goto C dX7_who_57 64 (by decide) ?_
            exact k_iret C dX7_who_64 ⟨0, N_h_23, L_h_23, Z_h_23, R_h_23, rfl, rfl, h⟩
        · have h := hf hc39; clear ht hf
          refine k_aload_n C dX7_who_42 0 rfl rfl 43 rfl ?_
          refine k_get C dX7_who_43 0 rfl (ci := 7) rfl hin_X7_who_7 21 (by decide) (List.mem_of_getElem? (i := 2) rfl) rfl 46 rfl ?_
          refine k_goto C dX7_who_46 64 (by decide) ?_
          exact k_iret C dX7_who_64 ⟨R_h_23.2.1, N_h_23, L_h_23, Z_h_23, R_h_23, rfl, rfl, h⟩
      · have h := hf hc27; clear ht hf
        refine k_aload_n C dX7_who_30 0 rfl rfl 31 rfl ?_
        refine k_get C dX7_who_31 0 rfl (ci := 7) rfl hin_X7_who_7 20 (by decide) (List.mem_of_getElem? (i := 1) rfl) rfl 34 rfl ?_
        refine k_goto C dX7_who_34 64 (by decide) ?_
        exact k_iret C dX7_who_64 ⟨R_h_23.1, N_h_23, L_h_23, Z_h_23, R_h_23, rfl, rfl, h⟩
    · have h := hf hc15; clear ht hf
      refine k_bipush C dX7_who_18 (by decide) 20 rfl ?_
      exact k_iret C dX7_who_20 ⟨(-2), N_h, L_h, Z_h, R_h, rfl, rfl, h⟩
