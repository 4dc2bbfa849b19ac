/-! X7_look -/
abbrev rm_X7_look : Room := { frames := 8, cells := 0, slots := 0, locals := 192 }
theorem sg_X7_look : yX7_look.cls ≠ "java/lang/invoke/MethodHandle" ∧ yX7_look.cls ≠ "java/lang/invoke/VarHandle" ∧ (parseMethodDescriptor yX7_look.desc).map (fun d => d.parameters.length) = some 2 := by decide +kernel
theorem hin_X7_look_7 : ∀ w ∈ wsX70, w ∈ wsX7_look := fun _ h => List.mem_cons_of_mem _ (List.mem_append_right _ h)
def rp_X7_look (cI cJ cZ : ClassId) (qh : Nat → Nat) (B_h : gMB) (P_h : gMP) (E_h : gME) (V_h : gMV) (G_h : gMG) (D_h : gMD) (O_h : gMO) (I_h : gMI) (Q : Int → gMN → gML → gMZ → gMR → Prop) : Option Value → va_W → Prop := fun v w1 => ∃ (r : Int) (N_h : gMN) (L_h : gML) (Z_h : gMZ) (R_h : gMR), v = some (.int (iI r)) ∧ w1 = (wdM cI cJ cZ qh B_h P_h N_h L_h E_h V_h G_h D_h O_h Z_h R_h I_h) ∧ Q r N_h L_h Z_h R_h
def wp_X7_look_58 (G_h : gMG) (K_99 : Int → Int → Int → Int → Int → gMN → gML → gMZ → gMR → Prop)  (Q : Int → gMN → gML → gMZ → gMR → Prop) : Nat → Int → Int → Int → Int → Int → Int → gMN → gML → gMZ → gMR → Prop
  | 0, _, _, _, _, _, _, _, _, _, _ => False
  | n58 + 1, x2, x3, x4, x5, x6, x7, N_h, L_h, Z_h, R_h =>
    rI x7 ∧ rI G_h.1 ∧ ((G_h.1 ≤ x7 → K_99 x2 x3 x4 x5 x6 N_h L_h Z_h R_h) ∧ (¬ (G_h.1 ≤ x7) → rI x6 ∧ ((¬ x6 = 0 → wp_X7_look_58 G_h K_99 Q n58 x2 x3 x4 x5 1 (x7 + 1) N_h L_h Z_h R_h) ∧ (¬ (¬ x6 = 0) → (0 ≤ (2 * x7) ∧ (2 * x7) < 16) ∧ rI (G_h.2 (2 * x7)) ∧ rI x5 ∧ ((¬ (G_h.2 (2 * x7)) = x5 → wp_X7_look_58 G_h K_99 Q n58 x2 x3 x4 x5 0 (x7 + 1) N_h L_h Z_h R_h) ∧ (¬ (¬ (G_h.2 (2 * x7)) = x5) → wp_X7_look_58 G_h K_99 Q n58 x2 x3 x4 x5 1 (x7 + 1) N_h L_h Z_h R_h))))))
def wp_X7_look_105 (K_156 : Int → Int → Int → Int → Int → Int → gMN → gML → gMZ → gMR → Prop)  (Q : Int → gMN → gML → gMZ → gMR → Prop) : Nat → Int → Int → Int → Int → Int → Int → Int → gMN → gML → gMZ → gMR → Prop
  | 0, _, _, _, _, _, _, _, _, _, _, _ => False
  | n105 + 1, x2, x3, x4, x5, x6, x7, x8, N_h, L_h, Z_h, R_h =>
    rI x8 ∧ ((11 ≤ x8 → K_156 x2 x3 x4 x5 x6 x7 N_h L_h Z_h R_h) ∧ (¬ (11 ≤ x8) → (0 ≤ ((11 * x5) + x8) ∧ ((11 * x5) + x8) < 110) ∧ rI (R_h.2.2.2 ((11 * x5) + x8)) ∧ rI x7 ∧ (((R_h.2.2.2 ((11 * x5) + x8)) ≤ x7 → wp_X7_look_105 K_156 Q n105 x2 x3 x4 x5 x6 x7 (x8 + 1) N_h L_h Z_h R_h) ∧ (¬ ((R_h.2.2.2 ((11 * x5) + x8)) ≤ x7) → wp_X7_look_105 K_156 Q n105 x2 x3 x4 x5 x6 (R_h.2.2.2 ((11 * x5) + x8)) (x8 + 1) N_h L_h Z_h R_h))))
def wp_X7_look_186 (K_36 : Int → Int → Int → Int → gMN → gML → gMZ → gMR → Prop)  (Q : Int → gMN → gML → gMZ → gMR → Prop) (x2 : Int) (x4 : Int) (x5 : Int) (x7 : Int) (x8 : Int) (s0 : Int) (N_h : gMN) (L_h : gML) (Z_h : gMZ) (R_h : gMR) : Prop :=
    rI x8 ∧ ((x8 = 0 → K_36 x2 s0 x4 (x5 + 1) N_h L_h Z_h R_h) ∧ (¬ (x8 = 0) → K_36 x2 s0 x7 (x5 + 1) N_h L_h Z_h R_h))
def wp_X7_look_173 (K_36 : Int → Int → Int → Int → gMN → gML → gMZ → gMR → Prop)  (Q : Int → gMN → gML → gMZ → gMR → Prop) (x2 : Int) (x3 : Int) (x4 : Int) (x5 : Int) (x7 : Int) (s0 : Int) (N_h : gMN) (L_h : gML) (Z_h : gMZ) (R_h : gMR) : Prop :=
    rI s0 ∧ ((s0 = 0 → wp_X7_look_186 K_36 Q x2 x4 x5 x7 s0 x3 N_h L_h Z_h R_h) ∧ (¬ (s0 = 0) → wp_X7_look_186 K_36 Q x2 x4 x5 x7 s0 x5 N_h L_h Z_h R_h))
def wp_X7_look_36 (B_h : gMB) (G_h : gMG) (K_207 : Int → Int → Int → gMN → gML → gMZ → gMR → Prop)  (Q : Int → gMN → gML → gMZ → gMR → Prop) : Nat → Int → Int → Int → Int → gMN → gML → gMZ → gMR → Prop
  | 0, _, _, _, _, _, _, _, _ => False
  | n36 + 1, x2, x3, x4, x5, N_h, L_h, Z_h, R_h =>
    rI x5 ∧ rI B_h.1 ∧ ((B_h.1 ≤ x5 → K_207 x2 x3 x4 N_h L_h Z_h R_h) ∧ (¬ (B_h.1 ≤ x5) → rI R_h.1 ∧ ((R_h.1 ≤ 0 → K_207 x2 x3 x4 N_h L_h Z_h R_h) ∧ (¬ (R_h.1 ≤ 0) → ∃ m58, wp_X7_look_58 G_h (fun (x2 : Int) (x3 : Int) (x4 : Int) (x5 : Int) (x6 : Int) (N_h : gMN) (L_h : gML) (Z_h : gMZ) (R_h : gMR) => ∃ m105, wp_X7_look_105 (fun (x2 : Int) (x3 : Int) (x4 : Int) (x5 : Int) (x6 : Int) (x7 : Int) (N_h : gMN) (L_h : gML) (Z_h : gMZ) (R_h : gMR) => rI x6 ∧ ((¬ x6 = 0 → wp_X7_look_173 (fun (x2 : Int) (x3 : Int) (x4 : Int) (x5 : Int) (N_h : gMN) (L_h : gML) (Z_h : gMZ) (R_h : gMR) => wp_X7_look_36 B_h G_h K_207 Q n36 x2 x3 x4 x5 N_h L_h Z_h R_h) Q x2 x3 x4 x5 x7 0 N_h L_h Z_h R_h) ∧ (¬ (¬ x6 = 0) → rI x7 ∧ rI x4 ∧ ((x4 ≤ x7 → wp_X7_look_173 (fun (x2 : Int) (x3 : Int) (x4 : Int) (x5 : Int) (N_h : gMN) (L_h : gML) (Z_h : gMZ) (R_h : gMR) => wp_X7_look_36 B_h G_h K_207 Q n36 x2 x3 x4 x5 N_h L_h Z_h R_h) Q x2 x3 x4 x5 x7 0 N_h L_h Z_h R_h) ∧ (¬ (x4 ≤ x7) → wp_X7_look_173 (fun (x2 : Int) (x3 : Int) (x4 : Int) (x5 : Int) (N_h : gMN) (L_h : gML) (Z_h : gMZ) (R_h : gMR) => wp_X7_look_36 B_h G_h K_207 Q n36 x2 x3 x4 x5 N_h L_h Z_h R_h) Q x2 x3 x4 x5 x7 1 N_h L_h Z_h R_h))))) Q m105 x2 x3 x4 x5 x6 0 0 N_h L_h Z_h R_h) Q m58 x2 x3 x4 x5 0 0 N_h L_h Z_h R_h))))
def wp_X7_look_207  (Q : Int → gMN → gML → gMZ → gMR → Prop) (x2 : Int) (x3 : Int) (x4 : Int) (N_h : gMN) (L_h : gML) (Z_h : gMZ) (R_h : gMR) : Prop :=
    rI x3 ∧ ((x3 < 0 → Q x3 N_h L_h Z_h R_h) ∧ (¬ (x3 < 0) → rI x2 ∧ ((¬ x2 = 0 → Q x4 N_h L_h Z_h R_h) ∧ (¬ (¬ x2 = 0) → Q x3 N_h L_h Z_h R_h))))
def wp_X7_look (B_h : gMB) (P_h : gMP) (N_h : gMN) (L_h : gML) (G_h : gMG) (Z_h : gMZ) (R_h : gMR) (x1 : Int) (x2 : Int) (Q : Int → gMN → gML → gMZ → gMR → Prop) : Prop :=
    wp_X7_in x1 0 2 (fun (r3 : Int) => ((r3 = 0 → Q (-2) N_h L_h Z_h R_h) ∧ (¬ (r3 = 0) → wp_X7_in x2 0 1 (fun (r12 : Int) => ((¬ r12 = 0 → wp_X7_layWho B_h P_h N_h L_h G_h Z_h R_h x1 (fun (N_h_23 : gMN) (L_h_23 : gML) (Z_h_23 : gMZ) (R_h_23 : gMR) => ∃ m36, wp_X7_look_36 B_h G_h (fun (x2 : Int) (x3 : Int) (x4 : Int) (N_h : gMN) (L_h : gML) (Z_h : gMZ) (R_h : gMR) => wp_X7_look_207 Q x2 x3 x4 N_h L_h Z_h R_h) Q m36 x2 (-6) 1000000 0 N_h_23 L_h_23 Z_h_23 R_h_23)) ∧ (¬ (¬ r12 = 0) → Q (-2) N_h L_h Z_h R_h))))))
set_option maxHeartbeats 4000000 in
set_option maxRecDepth 20000 in
theorem w_X7_look_58 {l : Launch} {D : va_G} {cI cJ cZ : ClassId} {A : Nat → Prop} {K : KT} {qh : Nat → Nat} {B_h : gMB} {P_h : gMP} {E_h : gME} {V_h : gMV} {G_h : gMG} {D_h : gMD} {O_h : gMO} {I_h : gMI} {Q : Int → gMN → gML → gMZ → gMR → Prop} {K_99 : Int → Int → Int → Int → Int → gMN → gML → gMZ → gMR → Prop} (C : KC cX7_look yX7_look.cls wsX7_look rm_X7_look 9 D (kT cI cJ cZ) A l false (rp_X7_look cI cJ cZ qh B_h P_h E_h V_h G_h D_h O_h I_h Q) 0 0 K) : ∀ (n : Nat) (x2 : Int) (x3 : Int) (x4 : Int) (x5 : Int) (x6 : Int) (x7 : Int) (N_h : gMN) (L_h : gML) (Z_h : gMZ) (R_h : gMR), wp_X7_look_58 G_h K_99 Q n x2 x3 x4 x5 x6 x7 N_h L_h Z_h R_h → (∀ (x2 : Int) (x3 : Int) (x4 : Int) (x5 : Int) (x6 : Int) (N_h : gMN) (L_h : gML) (Z_h : gMZ) (R_h : gMR), K_99 x2 x3 x4 x5 x6 N_h L_h Z_h R_h → K 0 0 99 [(0, .ref (qh 0)), (2, .int (iI x2)), (3, .int (iI x3)), (4, .int (iI x4)), (5, .int (iI x5)), (6, .int (iI x6))] [] ((wdM cI cJ cZ qh B_h P_h N_h L_h E_h V_h G_h D_h O_h Z_h R_h I_h))) → K 0 0 58 [(0, .ref (qh 0)), (2, .int (iI x2)), (3, .int (iI x3)), (4, .int (iI x4)), (5, .int (iI x5)), (6, .int (iI x6)), (7, .int (iI x7))] [] ((wdM cI cJ cZ qh B_h P_h N_h L_h E_h V_h G_h D_h O_h Z_h R_h I_h)) := by
  intro n
  induction n with
  | zero => intro x2 x3 x4 x5 x6 x7 N_h L_h Z_h R_h h; exact h.elim
  | succ n ih =>
    intro x2 x3 x4 x5 x6 x7 N_h L_h Z_h R_h h hK_99
    refine k_iload C dX7_look_58 6 rfl 60 rfl ?_
    refine k_aload_n C dX7_look_60 0 rfl rfl 61 rfl ?_
    refine k_get C dX7_look_61 0 rfl (ci := 7) rfl hin_X7_look_7 7 (by decide) (List.mem_of_getElem? (i := 4) rfl) rfl 64 rfl ?_
    obtain ⟨hr64a, hr64b, h⟩ := h
    obtain ⟨ht, hf⟩ := h
    refine k_icmp_ge C dX7_look_64 ⟨hr64a, hr64b⟩ 99 67 (by decide) rfl (fun hc64 => ?_) (fun hc64 => ?_)
    · have h := ht hc64; clear ht hf
      refine k_lv C [0, 1, 2, 3, 4, 5] [(0, .ref (qh 0)), (2, .int (iI x2)), (3, .int (iI x3)), (4, .int (iI x4)), (5, .int (iI x5)), (6, .int (iI x6))] rfl ?_
      exact hK_99 x2 x3 x4 x5 x6 N_h L_h Z_h R_h h
    · have h := hf hc64; clear ht hf
      refine k_iload C dX7_look_67 5 rfl 69 rfl ?_
      obtain ⟨hr69a, h⟩ := h
      obtain ⟨ht, hf⟩ := h
      refine k_if_ne C dX7_look_69 hr69a 86 72 (by decide) rfl (fun hc69 => ?_) (fun hc69 => ?_)
      · have h := ht hc69; clear ht hf
        refine k_iconst C dX7_look_86 87 rfl ?_
        refine k_goto C dX7_look_87 91 (by decide) ?_
        refine k_istore C dX7_look_91 (by decide) [(6, .int (iI 1)), (0, .ref (qh 0)), (2, .int (iI x2)), (3, .int (iI x3)), (4, .int (iI x4)), (5, .int (iI x5)), (7, .int (iI x7))] rfl 93 rfl ?_
        refine k_iinc (j := 6) C dX7_look_93 rfl (by decide) [(7, .int (iI (x7 + 1))), (6, .int (iI 1)), (0, .ref (qh 0)), (2, .int (iI x2)), (3, .int (iI x3)), (4, .int (iI x4)), (5, .int (iI x5))] rfl 96 rfl ?_
        refine k_goto C dX7_look_96 58 (by decide) ?_
        refine k_lv C [2, 3, 4, 5, 6, 1, 0] [(0, .ref (qh 0)), (2, .int (iI x2)), (3, .int (iI x3)), (4, .int (iI x4)), (5, .int (iI x5)), (6, .int (iI 1)), (7, .int (iI (x7 + 1)))] rfl ?_
        exact ih x2 x3 x4 x5 1 (x7 + 1) N_h L_h Z_h R_h h hK_99
      · have h := hf hc69; clear ht hf
        refine k_aload_n C dX7_look_72 0 rfl rfl 73 rfl ?_
        refine k_get C dX7_look_73 0 rfl (ci := 7) rfl hin_X7_look_7 8 (by decide) (List.mem_of_getElem? (i := 5) rfl) rfl 76 rfl ?_
        refine k_iconst C dX7_look_76 77 rfl ?_
        refine k_iload C dX7_look_77 6 rfl 79 rfl ?_
        refine k_imul C dX7_look_79 80 rfl ?_
        obtain ⟨hi80, h⟩ := h
        refine k_iaload C dX7_look_80 6 0 rfl rfl (by decide) hi80 81 rfl ?_
        refine k_iload C dX7_look_81 4 rfl 83 rfl ?_
        obtain ⟨hr83a, hr83b, h⟩ := h
        obtain ⟨ht, hf⟩ := h
        refine k_icmp_ne C dX7_look_83 ⟨hr83a, hr83b⟩ 90 86 (by decide) rfl (fun hc83 => ?_) (fun hc83 => ?_)
        · have h := ht hc83; clear ht hf
          refine k_iconst C dX7_look_90 91 rfl ?_
          refine k_istore C dX7_look_91 (by decide) [(6, .int (iI 0)), (0, .ref (qh 0)), (2, .int (iI x2)), (3, .int (iI x3)), (4, .int (iI x4)), (5, .int (iI x5)), (7, .int (iI x7))] rfl 93 rfl ?_
          refine k_iinc (j := 6) C dX7_look_93 rfl (by decide) [(7, .int (iI (x7 + 1))), (6, .int (iI 0)), (0, .ref (qh 0)), (2, .int (iI x2)), (3, .int (iI x3)), (4, .int (iI x4)), (5, .int (iI x5))] rfl 96 rfl ?_
          refine k_goto C dX7_look_96 58 (by decide) ?_
          refine k_lv C [2, 3, 4, 5, 6, 1, 0] [(0, .ref (qh 0)), (2, .int (iI x2)), (3, .int (iI x3)), (4, .int (iI x4)), (5, .int (iI x5)), (6, .int (iI 0)), (7, .int (iI (x7 + 1)))] rfl ?_
          exact ih x2 x3 x4 x5 0 (x7 + 1) N_h L_h Z_h R_h h hK_99
        · have h := hf hc83; clear ht hf
          refine k_iconst C dX7_look_86 87 rfl ?_
          refine k_goto C dX7_look_87 91 (by decide) ?_
          refine k_istore C dX7_look_91 (by decide) [(6, .int (iI 1)), (0, .ref (qh 0)), (2, .int (iI x2)), (3, .int (iI x3)), (4, .int (iI x4)), (5, .int (iI x5)), (7, .int (iI x7))] rfl 93 rfl ?_
          refine k_iinc (j := 6) C dX7_look_93 rfl (by decide) [(7, .int (iI (x7 + 1))), (6, .int (iI 1)), (0, .ref (qh 0)), (2, .int (iI x2)), (3, .int (iI x3)), (4, .int (iI x4)), (5, .int (iI x5))] rfl 96 rfl ?_
          refine k_goto C dX7_look_96 58 (by decide) ?_
          refine k_lv C [2, 3, 4, 5, 6, 1, 0] [(0, .ref (qh 0)), (2, .int (iI x2)), (3, .int (iI x3)), (4, .int (iI x4)), (5, .int (iI x5)), (6, .int (iI 1)), (7, .int (iI (x7 + 1)))] rfl ?_
          exact ih x2 x3 x4 x5 1 (x7 + 1) N_h L_h Z_h R_h h hK_99
set_option maxHeartbeats 4000000 in
set_option maxRecDepth 20000 in
theorem w_X7_look_105 {l : Launch} {D : va_G} {cI cJ cZ : ClassId} {A : Nat → Prop} {K : KT} {qh : Nat → Nat} {B_h : gMB} {P_h : gMP} {E_h : gME} {V_h : gMV} {G_h : gMG} {D_h : gMD} {O_h : gMO} {I_h : gMI} {Q : Int → gMN → gML → gMZ → gMR → Prop} {K_156 : Int → Int → Int → Int → Int → Int → gMN → gML → gMZ → gMR → Prop} (C : KC cX7_look yX7_look.cls wsX7_look rm_X7_look 9 D (kT cI cJ cZ) A l false (rp_X7_look cI cJ cZ qh B_h P_h E_h V_h G_h D_h O_h I_h Q) 0 0 K) : ∀ (n : Nat) (x2 : Int) (x3 : Int) (x4 : Int) (x5 : Int) (x6 : Int) (x7 : Int) (x8 : Int) (N_h : gMN) (L_h : gML) (Z_h : gMZ) (R_h : gMR), wp_X7_look_105 K_156 Q n x2 x3 x4 x5 x6 x7 x8 N_h L_h Z_h R_h → (∀ (x2 : Int) (x3 : Int) (x4 : Int) (x5 : Int) (x6 : Int) (x7 : Int) (N_h : gMN) (L_h : gML) (Z_h : gMZ) (R_h : gMR), K_156 x2 x3 x4 x5 x6 x7 N_h L_h Z_h R_h → K 0 0 156 [(0, .ref (qh 0)), (2, .int (iI x2)), (3, .int (iI x3)), (4, .int (iI x4)), (5, .int (iI x5)), (6, .int (iI x6)), (7, .int (iI x7))] [] ((wdM cI cJ cZ qh B_h P_h N_h L_h E_h V_h G_h D_h O_h Z_h R_h I_h))) → K 0 0 105 [(0, .ref (qh 0)), (2, .int (iI x2)), (3, .int (iI x3)), (4, .int (iI x4)), (5, .int (iI x5)), (6, .int (iI x6)), (7, .int (iI x7)), (8, .int (iI x8))] [] ((wdM cI cJ cZ qh B_h P_h N_h L_h E_h V_h G_h D_h O_h Z_h R_h I_h)) := by
  intro n
  induction n with
  | zero => intro x2 x3 x4 x5 x6 x7 x8 N_h L_h Z_h R_h h; exact h.elim
  | succ n ih =>
    intro x2 x3 x4 x5 x6 x7 x8 N_h L_h Z_h R_h h hK_156
    refine k_iload C dX7_look_105 7 rfl 107 rfl ?_
    refine k_bipush C dX7_look_107 (by decide) 109 rfl ?_
    obtain ⟨hr109a, h⟩ := h
    obtain ⟨ht, hf⟩ := h
    refine k_icmp_ge C dX7_look_109 ⟨hr109a, (by decide)⟩ 156 112 (by decide) rfl (fun hc109 => ?_) (fun hc109 => ?_)
    · have h := ht hc109; clear ht hf
      refine k_lv C [0, 1, 2, 3, 4, 5, 6] [(0, .ref (qh 0)), (2, .int (iI x2)), (3, .int (iI x3)), (4, .int (iI x4)), (5, .int (iI x5)), (6, .int (iI x6)), (7, .int (iI x7))] rfl ?_
      exact hK_156 x2 x3 x4 x5 x6 x7 N_h L_h Z_h R_h h
    · have h := hf hc109; clear ht hf
      refine k_aload_n C dX7_look_112 0 rfl rfl 113 rfl ?_
      refine k_get C dX7_look_113 0 rfl (ci := 7) rfl hin_X7_look_7 23 (by decide) (List.mem_of_getElem? (i := 6) rfl) rfl 116 rfl ?_
      refine k_bipush C dX7_look_116 (by decide) 118 rfl ?_
      refine k_iload C dX7_look_118 4 rfl 120 rfl ?_
      refine k_imul C dX7_look_120 121 rfl ?_
      refine k_iload C dX7_look_121 7 rfl 123 rfl ?_
      refine k_iadd C dX7_look_123 124 rfl ?_
      obtain ⟨hi124, h⟩ := h
      refine k_iaload C dX7_look_124 14 0 rfl rfl (by decide) hi124 125 rfl ?_
      refine k_iload C dX7_look_125 6 rfl 127 rfl ?_
      obtain ⟨hr127a, hr127b, h⟩ := h
      obtain ⟨ht, hf⟩ := h
      refine k_icmp_le C dX7_look_127 ⟨hr127a, hr127b⟩ 146 130 (by decide) rfl (fun hc127 => ?_) (fun hc127 => ?_)
      · have h := ht hc127; clear ht hf
        refine k_iload C dX7_look_146 6 rfl 148 rfl ?_
        refine k_istore C dX7_look_148 (by decide) [(7, .int (iI x7)), (0, .ref (qh 0)), (2, .int (iI x2)), (3, .int (iI x3)), (4, .int (iI x4)), (5, .int (iI x5)), (6, .int (iI x6)), (8, .int (iI x8))] rfl 150 rfl ?_
        refine k_iinc (j := 7) C dX7_look_150 rfl (by decide) [(8, .int (iI (x8 + 1))), (7, .int (iI x7)), (0, .ref (qh 0)), (2, .int (iI x2)), (3, .int (iI x3)), (4, .int (iI x4)), (5, .int (iI x5)), (6, .int (iI x6))] rfl 153 rfl ?_
        refine k_goto C dX7_look_153 105 (by decide) ?_
        refine k_lv C [2, 3, 4, 5, 6, 7, 1, 0] [(0, .ref (qh 0)), (2, .int (iI x2)), (3, .int (iI x3)), (4, .int (iI x4)), (5, .int (iI x5)), (6, .int (iI x6)), (7, .int (iI x7)), (8, .int (iI (x8 + 1)))] rfl ?_
        exact ih x2 x3 x4 x5 x6 x7 (x8 + 1) N_h L_h Z_h R_h h hK_156
      · have h := hf hc127; clear ht hf
        refine k_aload_n C dX7_look_130 0 rfl rfl 131 rfl ?_
        refine k_get C dX7_look_131 0 rfl (ci := 7) rfl hin_X7_look_7 23 (by decide) (List.mem_of_getElem? (i := 6) rfl) rfl 134 rfl ?_
        refine k_bipush C dX7_look_134 (by decide) 136 rfl ?_
        refine k_iload C dX7_look_136 4 rfl 138 rfl ?_
        refine k_imul C dX7_look_138 139 rfl ?_
        refine k_iload C dX7_look_139 7 rfl 141 rfl ?_
        refine k_iadd C dX7_look_141 142 rfl ?_
        refine k_iaload C dX7_look_142 14 0 rfl rfl (by decide) hi124 143 rfl ?_
        refine k_goto C dX7_look_143 148 (by decide) ?_
        refine k_istore C dX7_look_148 (by decide) [(7, .int (iI (R_h.2.2.2 ((11 * x5) + x8)))), (0, .ref (qh 0)), (2, .int (iI x2)), (3, .int (iI x3)), (4, .int (iI x4)), (5, .int (iI x5)), (6, .int (iI x6)), (8, .int (iI x8))] rfl 150 rfl ?_
        refine k_iinc (j := 7) C dX7_look_150 rfl (by decide) [(8, .int (iI (x8 + 1))), (7, .int (iI (R_h.2.2.2 ((11 * x5) + x8)))), (0, .ref (qh 0)), (2, .int (iI x2)), (3, .int (iI x3)), (4, .int (iI x4)), (5, .int (iI x5)), (6, .int (iI x6))] rfl 153 rfl ?_
        refine k_goto C dX7_look_153 105 (by decide) ?_
        refine k_lv C [2, 3, 4, 5, 6, 7, 1, 0] [(0, .ref (qh 0)), (2, .int (iI x2)), (3, .int (iI x3)), (4, .int (iI x4)), (5, .int (iI x5)), (6, .int (iI x6)), (7, .int (iI (R_h.2.2.2 ((11 * x5) + x8)))), (8, .int (iI (x8 + 1)))] rfl ?_
        exact ih x2 x3 x4 x5 x6 (R_h.2.2.2 ((11 * x5) + x8)) (x8 + 1) N_h L_h Z_h R_h h hK_156
set_option maxHeartbeats 4000000 in
set_option maxRecDepth 20000 in
theorem w_X7_look_186 {l : Launch} {D : va_G} {cI cJ cZ : ClassId} {A : Nat → Prop} {K : KT} {qh : Nat → Nat} {B_h : gMB} {P_h : gMP} {E_h : gME} {V_h : gMV} {G_h : gMG} {D_h : gMD} {O_h : gMO} {I_h : gMI} {Q : Int → gMN → gML → gMZ → gMR → Prop} {K_36 : Int → Int → Int → Int → gMN → gML → gMZ → gMR → Prop} (C : KC cX7_look yX7_look.cls wsX7_look rm_X7_look 9 D (kT cI cJ cZ) A l false (rp_X7_look cI cJ cZ qh B_h P_h E_h V_h G_h D_h O_h I_h Q) 0 0 K) : ∀ (x2 : Int) (x4 : Int) (x5 : Int) (x7 : Int) (x8 : Int) (s0 : Int) (N_h : gMN) (L_h : gML) (Z_h : gMZ) (R_h : gMR), wp_X7_look_186 K_36 Q x2 x4 x5 x7 x8 s0 N_h L_h Z_h R_h → (∀ (x2 : Int) (x3 : Int) (x4 : Int) (x5 : Int) (N_h : gMN) (L_h : gML) (Z_h : gMZ) (R_h : gMR), K_36 x2 x3 x4 x5 N_h L_h Z_h R_h → K 0 0 36 [(0, .ref (qh 0)), (2, .int (iI x2)), (3, .int (iI x3)), (4, .int (iI x4)), (5, .int (iI x5))] [] ((wdM cI cJ cZ qh B_h P_h N_h L_h E_h V_h G_h D_h O_h Z_h R_h I_h))) → K 0 0 186 [(0, .ref (qh 0)), (2, .int (iI x2)), (4, .int (iI x4)), (5, .int (iI x5)), (7, .int (iI x7)), (8, .int (iI x8))] [.int (iI s0)] ((wdM cI cJ cZ qh B_h P_h N_h L_h E_h V_h G_h D_h O_h Z_h R_h I_h)) := by
  intro x2 x4 x5 x7 x8 s0 N_h L_h Z_h R_h h hK_36
  refine k_istore_n C dX7_look_186 rfl (by decide) [(3, .int (iI s0)), (0, .ref (qh 0)), (2, .int (iI x2)), (4, .int (iI x4)), (5, .int (iI x5)), (7, .int (iI x7)), (8, .int (iI x8))] rfl 187 rfl ?_
  refine k_iload C dX7_look_187 6 rfl 189 rfl ?_
  obtain ⟨hr189a, h⟩ := h
  obtain ⟨ht, hf⟩ := h
  refine k_if_eq C dX7_look_189 hr189a 197 192 (by decide) rfl (fun hc189 => ?_) (fun hc189 => ?_)
  · have h := ht hc189; clear ht hf
    refine k_iload C dX7_look_197 3 rfl 199 rfl ?_
    refine k_istore C dX7_look_199 (by decide) [(4, .int (iI x4)), (3, .int (iI s0)), (0, .ref (qh 0)), (2, .int (iI x2)), (5, .int (iI x5)), (7, .int (iI x7)), (8, .int (iI x8))] rfl 201 rfl ?_
    refine k_iinc (j := 4) C dX7_look_201 rfl (by decide) [(5, .int (iI (x5 + 1))), (4, .int (iI x4)), (3, .int (iI s0)), (0, .ref (qh 0)), (2, .int (iI x2)), (7, .int (iI x7)), (8, .int (iI x8))] rfl 204 rfl ?_
    refine k_goto C dX7_look_204 36 (by decide) ?_
    refine k_lv C [3, 4, 2, 1, 0] [(0, .ref (qh 0)), (2, .int (iI x2)), (3, .int (iI s0)), (4, .int (iI x4)), (5, .int (iI (x5 + 1)))] rfl ?_
    exact hK_36 x2 s0 x4 (x5 + 1) N_h L_h Z_h R_h h
  · have h := hf hc189; clear ht hf
    refine k_iload C dX7_look_192 5 rfl 194 rfl ?_
    refine k_goto C dX7_look_194 199 (by decide) ?_
    refine k_istore C dX7_look_199 (by decide) [(4, .int (iI x7)), (3, .int (iI s0)), (0, .ref (qh 0)), (2, .int (iI x2)), (5, .int (iI x5)), (7, .int (iI x7)), (8, .int (iI x8))] rfl 201 rfl ?_
    refine k_iinc (j := 4) C dX7_look_201 rfl (by decide) [(5, .int (iI (x5 + 1))), (4, .int (iI x7)), (3, .int (iI s0)), (0, .ref (qh 0)), (2, .int (iI x2)), (7, .int (iI x7)), (8, .int (iI x8))] rfl 204 rfl ?_
    refine k_goto C dX7_look_204 36 (by decide) ?_
    refine k_lv C [3, 4, 2, 1, 0] [(0, .ref (qh 0)), (2, .int (iI x2)), (3, .int (iI s0)), (4, .int (iI x7)), (5, .int (iI (x5 + 1)))] rfl ?_
    exact hK_36 x2 s0 x7 (x5 + 1) N_h L_h Z_h R_h h
set_option maxHeartbeats 4000000 in
set_option maxRecDepth 20000 in
theorem w_X7_look_173 {l : Launch} {D : va_G} {cI cJ cZ : ClassId} {A : Nat → Prop} {K : KT} {qh : Nat → Nat} {B_h : gMB} {P_h : gMP} {E_h : gME} {V_h : gMV} {G_h : gMG} {D_h : gMD} {O_h : gMO} {I_h : gMI} {Q : Int → gMN → gML → gMZ → gMR → Prop} {K_36 : Int → Int → Int → Int → gMN → gML → gMZ → gMR → Prop} (C : KC cX7_look yX7_look.cls wsX7_look rm_X7_look 9 D (kT cI cJ cZ) A l false (rp_X7_look cI cJ cZ qh B_h P_h E_h V_h G_h D_h O_h I_h Q) 0 0 K) : ∀ (x2 : Int) (x3 : Int) (x4 : Int) (x5 : Int) (x7 : Int) (s0 : Int) (N_h : gMN) (L_h : gML) (Z_h : gMZ) (R_h : gMR), wp_X7_look_173 K_36 Q x2 x3 x4 x5 x7 s0 N_h L_h Z_h R_h → (∀ (x2 : Int) (x3 : Int) (x4 : Int) (x5 : Int) (N_h : gMN) (L_h : gML) (Z_h : gMZ) (R_h : gMR), K_36 x2 x3 x4 x5 N_h L_h Z_h R_h → K 0 0 36 [(0, .ref (qh 0)), (2, .int (iI x2)), (3, .int (iI x3)), (4, .int (iI x4)), (5, .int (iI x5))] [] ((wdM cI cJ cZ qh B_h P_h N_h L_h E_h V_h G_h D_h O_h Z_h R_h I_h))) → K 0 0 173 [(0, .ref (qh 0)), (2, .int (iI x2)), (3, .int (iI x3)), (4, .int (iI x4)), (5, .int (iI x5)), (7, .int (iI x7))] [.int (iI s0)] ((wdM cI cJ cZ qh B_h P_h N_h L_h E_h V_h G_h D_h O_h Z_h R_h I_h)) := by
  intro x2 x3 x4 x5 x7 s0 N_h L_h Z_h R_h h hK_36
  refine k_istore C dX7_look_173 (by decide) [(8, .int (iI s0)), (0, .ref (qh 0)), (2, .int (iI x2)), (3, .int (iI x3)), (4, .int (iI x4)), (5, .int (iI x5)), (7, .int (iI x7))] rfl 175 rfl ?_
  refine k_iload C dX7_look_175 0 rfl 177 rfl ?_
  obtain ⟨hr177a, h⟩ := h
  obtain ⟨ht, hf⟩ := h
  refine k_if_eq C dX7_look_177 hr177a 185 180 (by decide) rfl (fun hc177 => ?_) (fun hc177 => ?_)
  · have h := ht hc177; clear ht hf
    refine k_iload_n C dX7_look_185 3 rfl rfl 186 rfl ?_
    refine k_lv C [1, 2, 4, 5, 6, 0] [(0, .ref (qh 0)), (2, .int (iI x2)), (4, .int (iI x4)), (5, .int (iI x5)), (7, .int (iI x7)), (8, .int (iI s0))] rfl ?_
    refine w_X7_look_186 C x2 x4 x5 x7 s0 x3 N_h L_h Z_h R_h h hK_36
  · have h := hf hc177; clear ht hf
    refine k_iload C dX7_look_180 5 rfl 182 rfl ?_
    refine k_goto C dX7_look_182 186 (by decide) ?_
    refine k_lv C [1, 2, 4, 5, 6, 0] [(0, .ref (qh 0)), (2, .int (iI x2)), (4, .int (iI x4)), (5, .int (iI x5)), (7, .int (iI x7)), (8, .int (iI s0))] rfl ?_
    refine w_X7_look_186 C x2 x4 x5 x7 s0 x5 N_h L_h Z_h R_h h hK_36
set_option maxHeartbeats 4000000 in
set_option maxRecDepth 20000 in
theorem w_X7_look_36 {l : Launch} {D : va_G} {cI cJ cZ : ClassId} {A : Nat → Prop} {K : KT} {qh : Nat → Nat} {B_h : gMB} {P_h : gMP} {E_h : gME} {V_h : gMV} {G_h : gMG} {D_h : gMD} {O_h : gMO} {I_h : gMI} {Q : Int → gMN → gML → gMZ → gMR → Prop} {K_207 : Int → Int → Int → gMN → gML → gMZ → gMR → Prop} (C : KC cX7_look yX7_look.cls wsX7_look rm_X7_look 9 D (kT cI cJ cZ) A l false (rp_X7_look cI cJ cZ qh B_h P_h E_h V_h G_h D_h O_h I_h Q) 0 0 K) : ∀ (n : Nat) (x2 : Int) (x3 : Int) (x4 : Int) (x5 : Int) (N_h : gMN) (L_h : gML) (Z_h : gMZ) (R_h : gMR), wp_X7_look_36 B_h G_h K_207 Q n x2 x3 x4 x5 N_h L_h Z_h R_h → (∀ (x2 : Int) (x3 : Int) (x4 : Int) (N_h : gMN) (L_h : gML) (Z_h : gMZ) (R_h : gMR), K_207 x2 x3 x4 N_h L_h Z_h R_h → K 0 0 207 [(2, .int (iI x2)), (3, .int (iI x3)), (4, .int (iI x4))] [] ((wdM cI cJ cZ qh B_h P_h N_h L_h E_h V_h G_h D_h O_h Z_h R_h I_h))) → K 0 0 36 [(0, .ref (qh 0)), (2, .int (iI x2)), (3, .int (iI x3)), (4, .int (iI x4)), (5, .int (iI x5))] [] ((wdM cI cJ cZ qh B_h P_h N_h L_h E_h V_h G_h D_h O_h Z_h R_h I_h)) := by
  intro n
  induction n with
  | zero => intro x2 x3 x4 x5 N_h L_h Z_h R_h h; exact h.elim
  | succ n ih =>
    intro x2 x3 x4 x5 N_h L_h Z_h R_h h hK_207
    refine k_iload C dX7_look_36 4 rfl 38 rfl ?_
    refine k_aload_n C dX7_look_38 0 rfl rfl 39 rfl ?_
    refine k_get C dX7_look_39 0 rfl (ci := 7) rfl hin_X7_look_7 0 (by decide) (List.mem_of_getElem? (i := 2) rfl) rfl 42 rfl ?_
    obtain ⟨hr42a, hr42b, h⟩ := h
    obtain ⟨ht, hf⟩ := h
    refine k_icmp_ge C dX7_look_42 ⟨hr42a, hr42b⟩ 207 45 (by decide) rfl (fun hc42 => ?_) (fun hc42 => ?_)
    · have h := ht hc42; clear ht hf
      refine k_lv C [1, 2, 3] [(2, .int (iI x2)), (3, .int (iI x3)), (4, .int (iI x4))] rfl ?_
      exact hK_207 x2 x3 x4 N_h L_h Z_h R_h h
    · have h := hf hc42; clear ht hf
      refine k_aload_n C dX7_look_45 0 rfl rfl 46 rfl ?_
      refine k_get C dX7_look_46 0 rfl (ci := 7) rfl hin_X7_look_7 20 (by decide) (List.mem_of_getElem? (i := 3) rfl) rfl 49 rfl ?_
      obtain ⟨hr49a, h⟩ := h
      obtain ⟨ht, hf⟩ := h
      refine k_if_le C dX7_look_49 hr49a 207 52 (by decide) rfl (fun hc49 => ?_) (fun hc49 => ?_)
      · have h := ht hc49; clear ht hf
        refine k_lv C [1, 2, 3] [(2, .int (iI x2)), (3, .int (iI x3)), (4, .int (iI x4))] rfl ?_
        exact hK_207 x2 x3 x4 N_h L_h Z_h R_h h
      · have h := hf hc49; clear ht hf
        refine k_iconst C dX7_look_52 53 rfl ?_
        refine k_istore C dX7_look_53 (by decide) [(6, .int (iI 0)), (0, .ref (qh 0)), (2, .int (iI x2)), (3, .int (iI x3)), (4, .int (iI x4)), (5, .int (iI x5))] rfl 55 rfl ?_
        refine k_iconst C dX7_look_55 56 rfl ?_
        refine k_istore C dX7_look_56 (by decide) [(7, .int (iI 0)), (6, .int (iI 0)), (0, .ref (qh 0)), (2, .int (iI x2)), (3, .int (iI x3)), (4, .int (iI x4)), (5, .int (iI x5))] rfl 58 rfl ?_
        refine k_lv C [2, 3, 4, 5, 6, 1, 0] [(0, .ref (qh 0)), (2, .int (iI x2)), (3, .int (iI x3)), (4, .int (iI x4)), (5, .int (iI x5)), (6, .int (iI 0)), (7, .int (iI 0))] rfl ?_
        obtain ⟨m58, h⟩ := h
        refine w_X7_look_58 C m58 x2 x3 x4 x5 0 0 N_h L_h Z_h R_h h (fun x2 x3 x4 x5 x6 N_h L_h Z_h R_h h => ?_)
        · refine k_iconst C dX7_look_99 100 rfl ?_
          refine k_istore C dX7_look_100 (by decide) [(7, .int (iI 0)), (0, .ref (qh 0)), (2, .int (iI x2)), (3, .int (iI x3)), (4, .int (iI x4)), (5, .int (iI x5)), (6, .int (iI x6))] rfl 102 rfl ?_
          refine k_iconst C dX7_look_102 103 rfl ?_
          refine k_istore C dX7_look_103 (by decide) [(8, .int (iI 0)), (7, .int (iI 0)), (0, .ref (qh 0)), (2, .int (iI x2)), (3, .int (iI x3)), (4, .int (iI x4)), (5, .int (iI x5)), (6, .int (iI x6))] rfl 105 rfl ?_
          refine k_lv C [2, 3, 4, 5, 6, 7, 1, 0] [(0, .ref (qh 0)), (2, .int (iI x2)), (3, .int (iI x3)), (4, .int (iI x4)), (5, .int (iI x5)), (6, .int (iI x6)), (7, .int (iI 0)), (8, .int (iI 0))] rfl ?_
          obtain ⟨m105, h⟩ := h
          refine w_X7_look_105 C m105 x2 x3 x4 x5 x6 0 0 N_h L_h Z_h R_h h (fun x2 x3 x4 x5 x6 x7 N_h L_h Z_h R_h h => ?_)
          · refine k_iload C dX7_look_156 5 rfl 158 rfl ?_
            obtain ⟨hr158a, h⟩ := h
            obtain ⟨ht, hf⟩ := h
            refine k_if_ne C dX7_look_158 hr158a 172 161 (by decide) rfl (fun hc158 => ?_) (fun hc158 => ?_)
            · have h := ht hc158; clear ht hf
              refine k_iconst C dX7_look_172 173 rfl ?_
              refine k_lv C [0, 1, 2, 3, 4, 6] [(0, .ref (qh 0)), (2, .int (iI x2)), (3, .int (iI x3)), (4, .int (iI x4)), (5, .int (iI x5)), (7, .int (iI x7))] rfl ?_
              refine w_X7_look_173 C x2 x3 x4 x5 x7 0 N_h L_h Z_h R_h h (fun x2 x3 x4 x5 N_h L_h Z_h R_h h => ?_)
              · exact ih x2 x3 x4 x5 N_h L_h Z_h R_h h hK_207
            · have h := hf hc158; clear ht hf
              refine k_iload C dX7_look_161 6 rfl 163 rfl ?_
              refine k_iload C dX7_look_163 3 rfl 165 rfl ?_
              obtain ⟨hr165a, hr165b, h⟩ := h
              obtain ⟨ht, hf⟩ := h
              refine k_icmp_ge C dX7_look_165 ⟨hr165a, hr165b⟩ 172 168 (by decide) rfl (fun hc165 => ?_) (fun hc165 => ?_)
              · have h := ht hc165; clear ht hf
                refine k_iconst C dX7_look_172 173 rfl ?_
                refine k_lv C [0, 1, 2, 3, 4, 6] [(0, .ref (qh 0)), (2, .int (iI x2)), (3, .int (iI x3)), (4, .int (iI x4)), (5, .int (iI x5)), (7, .int (iI x7))] rfl ?_
                refine w_X7_look_173 C x2 x3 x4 x5 x7 0 N_h L_h Z_h R_h h (fun x2 x3 x4 x5 N_h L_h Z_h R_h h => ?_)
                · exact ih x2 x3 x4 x5 N_h L_h Z_h R_h h hK_207
              · have h := hf hc165; clear ht hf
                refine k_iconst C dX7_look_168 169 rfl ?_
                refine k_goto C dX7_look_169 173 (by decide) ?_
                refine k_lv C [0, 1, 2, 3, 4, 6] [(0, .ref (qh 0)), (2, .int (iI x2)), (3, .int (iI x3)), (4, .int (iI x4)), (5, .int (iI x5)), (7, .int (iI x7))] rfl ?_
                refine w_X7_look_173 C x2 x3 x4 x5 x7 1 N_h L_h Z_h R_h h (fun x2 x3 x4 x5 N_h L_h Z_h R_h h => ?_)
                · exact ih x2 x3 x4 x5 N_h L_h Z_h R_h h hK_207
set_option maxHeartbeats 4000000 in
set_option maxRecDepth 20000 in
theorem w_X7_look_207 {l : Launch} {D : va_G} {cI cJ cZ : ClassId} {A : Nat → Prop} {K : KT} {qh : Nat → Nat} {B_h : gMB} {P_h : gMP} {E_h : gME} {V_h : gMV} {G_h : gMG} {D_h : gMD} {O_h : gMO} {I_h : gMI} {Q : Int → gMN → gML → gMZ → gMR → Prop} (C : KC cX7_look yX7_look.cls wsX7_look rm_X7_look 9 D (kT cI cJ cZ) A l false (rp_X7_look cI cJ cZ qh B_h P_h E_h V_h G_h D_h O_h I_h Q) 0 0 K) : ∀ (x2 : Int) (x3 : Int) (x4 : Int) (N_h : gMN) (L_h : gML) (Z_h : gMZ) (R_h : gMR), wp_X7_look_207 Q x2 x3 x4 N_h L_h Z_h R_h → K 0 0 207 [(2, .int (iI x2)), (3, .int (iI x3)), (4, .int (iI x4))] [] ((wdM cI cJ cZ qh B_h P_h N_h L_h E_h V_h G_h D_h O_h Z_h R_h I_h)) := by
  intro x2 x3 x4 N_h L_h Z_h R_h h 
  refine k_iload_n C dX7_look_207 1 rfl rfl 208 rfl ?_
  obtain ⟨hr208a, h⟩ := h
  obtain ⟨ht, hf⟩ := h
  refine k_if_lt C dX7_look_208 hr208a 215 211 (by decide) rfl (fun hc208 => ?_) (fun hc208 => ?_)
  · have h := ht hc208; clear ht hf
    refine k_iload_n C dX7_look_215 1 rfl rfl 216 rfl ?_
    refine k_goto C dX7_look_216 221 (by decide) ?_
    exact k_iret C dX7_look_221 ⟨x3, N_h, L_h, Z_h, R_h, rfl, rfl, h⟩
  · have h := hf hc208; clear ht hf
    refine k_iload_n C dX7_look_211 0 rfl rfl 212 rfl ?_
    obtain ⟨hr212a, h⟩ := h
    obtain ⟨ht, hf⟩ := h
    refine k_if_ne C dX7_look_212 hr212a 219 215 (by decide) rfl (fun hc212 => ?_) (fun hc212 => ?_)
    · have h := ht hc212; clear ht hf
      refine k_iload C dX7_look_219 2 rfl 221 rfl ?_
      exact k_iret C dX7_look_221 ⟨x4, N_h, L_h, Z_h, R_h, rfl, rfl, h⟩
    · have h := hf hc212; clear ht hf
      refine k_iload_n C dX7_look_215 1 rfl rfl 216 rfl ?_
      refine k_goto C dX7_look_216 221 (by decide) ?_
      exact k_iret C dX7_look_221 ⟨x3, N_h, L_h, Z_h, R_h, rfl, rfl, h⟩
set_option maxHeartbeats 4000000 in
set_option maxRecDepth 20000 in
theorem c_X7_look {l : Launch} {D : va_G} {cI cJ cZ : ClassId} (qh : Nat → Nat) (B_h : gMB) (P_h : gMP) (N_h : gMN) (L_h : gML) (E_h : gME) (V_h : gMV) (G_h : gMG) (D_h : gMD) (O_h : gMO) (Z_h : gMZ) (R_h : gMR) (I_h : gMI) (x1 : Int) (x2 : Int) (Q : Int → gMN → gML → gMZ → gMR → Prop) (h : wp_X7_look B_h P_h N_h L_h G_h Z_h R_h x1 x2 Q) : KM l D (kT cI cJ cZ) 0 0 yX7_look wsX7_look rm_X7_look [.ref (qh 0), .int (iI x1), .int (iI x2)] ((wdM cI cJ cZ qh B_h P_h N_h L_h E_h V_h G_h D_h O_h Z_h R_h I_h)) (rp_X7_look cI cJ cZ qh B_h P_h E_h V_h G_h D_h O_h I_h Q) := by
  refine KM_intro (lv := [(0, .ref (qh 0)), (1, .int (iI x1)), (2, .int (iI x2))]) false rfl (by decide) (Nat.le_of_ble_eq_true rfl) rfl (fun h => absurd h (by decide)) (fun v ws hq => by obtain ⟨r, N_h, L_h, Z_h, R_h, rfl, rfl, _⟩ := hq; exact Or.inr (Or.inl ⟨rfl, _, rfl⟩)) (fun A K C => ?_)
  refine k_iload_n C dX7_look_0 1 rfl rfl 1 rfl ?_
  refine k_iconst C dX7_look_1 2 rfl ?_
  refine k_iconst C dX7_look_2 3 rfl ?_
  have hM := c_X7_in (l := l) (D := D) (cI := cI) (cJ := cJ) (cZ := cZ) x1 0 2 _ h
  refine k_callS C dX7_look_3 hM gX7_look_X7_in rfl sg_X7_in rfl (Nat.le_of_ble_eq_true rfl) ⟨⟨rfl, rfl⟩, by decide, by decide⟩ ⟨Nat.le_refl 0, Nat.le_refl 0⟩ [] [0, 1, 2, 3, 4, 5, 6, 7, 8, 9, 10, 11, 12, 13, 14, 15, 16] rfl rfl rfl rfl (by decide) 0 0 ⟨rfl, rfl⟩ 6 rfl (fun v w1 hq3 => ?_)
  obtain ⟨r3, rfl, rfl, hb3, h⟩ := hq3
  refine k_perm C [0, 1, 2, 3, 4, 5, 6, 7, 8, 9, 10, 11, 12, 13, 14, 15, 16] [.int (iI r3)] ((wdM cI cJ cZ qh B_h P_h N_h L_h E_h V_h G_h D_h O_h Z_h R_h I_h)) rfl rfl rfl ?_
  obtain ⟨ht, hf⟩ := h
  refine k_if_eq C dX7_look_6 (by rcases hb3 with rfl | rfl <;> decide) 18 9 (by decide) rfl (fun hc6 => ?_) (fun hc6 => ?_)
  · have h := ht hc6; clear ht hf
    refine k_bipush C dX7_look_18 (by decide) 20 rfl ?_
    exact k_iret C dX7_look_20 ⟨(-2), N_h, L_h, Z_h, R_h, rfl, rfl, h⟩
  · have h := hf hc6; clear ht hf
    refine k_iload_n C dX7_look_9 2 rfl rfl 10 rfl ?_
    refine k_iconst C dX7_look_10 11 rfl ?_
    refine k_iconst C dX7_look_11 12 rfl ?_
    have hM := c_X7_in (l := l) (D := D) (cI := cI) (cJ := cJ) (cZ := cZ) x2 0 1 _ h
    refine k_callS C dX7_look_12 hM gX7_look_X7_in rfl sg_X7_in rfl (Nat.le_of_ble_eq_true rfl) ⟨⟨rfl, rfl⟩, by decide, by decide⟩ ⟨Nat.le_refl 0, Nat.le_refl 0⟩ [] [0, 1, 2, 3, 4, 5, 6, 7, 8, 9, 10, 11, 12, 13, 14, 15, 16] rfl rfl rfl rfl (by decide) 0 0 ⟨rfl, rfl⟩ 15 rfl (fun v w1 hq12 => ?_)
    obtain ⟨r12, rfl, rfl, hb12, h⟩ := hq12
    refine k_perm C [0, 1, 2, 3, 4, 5, 6, 7, 8, 9, 10, 11, 12, 13, 14, 15, 16] [.int (iI r12)] ((wdM cI cJ cZ qh B_h P_h N_h L_h E_h V_h G_h D_h O_h Z_h R_h I_h)) rfl rfl rfl ?_
    obtain ⟨ht, hf⟩ := h
    refine k_if_ne C dX7_look_15 (by rcases hb12 with rfl | rfl <;> decide) 21 18 (by decide) rfl (fun hc15 => ?_) (fun hc15 => ?_)
    · have h := ht hc15; clear ht hf
      refine k_aload_n C dX7_look_21 0 rfl rfl 22 rfl ?_
      refine k_iload_n C dX7_look_22 1 rfl rfl 23 rfl ?_
      have hM := c_X7_layWho (l := l) (D := D) (cI := cI) (cJ := cJ) (cZ := cZ) qh B_h P_h N_h L_h E_h V_h G_h D_h O_h Z_h R_h I_h x1 _ h
      refine k_callV C dX7_look_23 hM gX7_look_X7_layWho rfl sg_X7_layWho 7 rfl rfl rfl (Nat.le_of_ble_eq_true rfl) ⟨⟨rfl, rfl⟩, by decide, by decide⟩ ⟨Nat.le_refl 0, Nat.le_refl 0⟩ [0, 1, 2, 3, 4, 5, 6, 7, 8, 9, 10, 11, 12, 13, 14, 15, 16] [] rfl rfl rfl rfl (by decide) 0 0 ⟨rfl, rfl⟩ 26 rfl (fun v w1 hq23 => ?_)
      obtain ⟨N_h_23, L_h_23, Z_h_23, R_h_23, rfl, rfl, h⟩ := hq23
      refine k_perm C [0, 1, 2, 3, 4, 5, 6, 7, 8, 9, 10, 11, 12, 13, 14, 15, 16] [] ((wdM cI cJ cZ qh B_h P_h N_h_23 L_h_23 E_h V_h G_h D_h O_h Z_h_23 R_h_23 I_h)) rfl rfl rfl ?_
      refine k_bipush C dX7_look_26 (by decide) 28 rfl ?_
      refine k_istore_n C dX7_look_28 rfl (by decide) [(3, .int (iI (-6))), (0, .ref (qh 0)), (1, .int (iI x1)), (2, .int (iI x2))] rfl 29 rfl ?_
      refine k_ldc (v := 1000000) C dX7_look_29 (List.mem_of_getElem? (i := 1) rfl) (by decide) 31 rfl ?_
      refine k_istore C dX7_look_31 (by decide) [(4, .int (iI 1000000)), (3, .int (iI (-6))), (0, .ref (qh 0)), (1, .int (iI x1)), (2, .int (iI x2))] rfl 33 rfl ?_
      refine k_iconst C dX7_look_33 34 rfl ?_
      refine k_istore C dX7_look_34 (by decide) [(5, .int (iI 0)), (4, .int (iI 1000000)), (3, .int (iI (-6))), (0, .ref (qh 0)), (1, .int (iI x1)), (2, .int (iI x2))] rfl 36 rfl ?_
      refine k_lv C [3, 5, 2, 1, 0] [(0, .ref (qh 0)), (2, .int (iI x2)), (3, .int (iI (-6))), (4, .int (iI 1000000)), (5, .int (iI 0))] rfl ?_
      obtain ⟨m36, h⟩ := h
      refine w_X7_look_36 C m36 x2 (-6) 1000000 0 N_h_23 L_h_23 Z_h_23 R_h_23 h (fun x2 x3 x4 N_h L_h Z_h R_h h => ?_)
      · refine w_X7_look_207 C x2 x3 x4 N_h L_h Z_h R_h h
    · have h := hf hc15; clear ht hf
      refine k_bipush C dX7_look_18 (by decide) 20 rfl ?_
      exact k_iret C dX7_look_20 ⟨(-2), N_h, L_h, Z_h, R_h, rfl, rfl, h⟩

/-! X7_weak -/
abbrev rm_X7_weak : Room := { frames := 5, cells := 0, slots := 0, locals := 116 }
theorem sg_X7_weak : yX7_weak.cls ≠ "java/lang/invoke/MethodHandle" ∧ yX7_weak.cls ≠ "java/lang/invoke/VarHandle" ∧ (parseMethodDescriptor yX7_weak.desc).map (fun d => d.parameters.length) = some 3 := by decide +kernel
theorem hin_X7_weak_7 : ∀ w ∈ wsX70, w ∈ wsX7_weak := fun _ h => List.mem_cons_of_mem _ (List.mem_append_right _ h)
def rp_X7_weak (cI cJ cZ : ClassId) (qh : Nat → Nat) (B_h : gMB) (P_h : gMP) (E_h : gME) (V_h : gMV) (G_h : gMG) (D_h : gMD) (O_h : gMO) (Z_h : gMZ) (R_h : gMR) (I_h : gMI) (Q : Int → gMN → gML → Prop) : Option Value → va_W → Prop := fun v w1 => ∃ (r : Int) (N_h : gMN) (L_h : gML), v = some (.long (lL r)) ∧ w1 = (wdM cI cJ cZ qh B_h P_h N_h L_h E_h V_h G_h D_h O_h Z_h R_h I_h) ∧ Q r N_h L_h
def wp_X7_weak_46 (K_81 : Int → Int → Int → Int → gMN → gML → Prop)  (Q : Int → gMN → gML → Prop) : Nat → Int → Int → Int → Int → Int → gMN → gML → Prop
  | 0, _, _, _, _, _, _, _ => False
  | n46 + 1, x1, x2, x3, x4, x5, N_h, L_h =>
    rI x5 ∧ ((10 ≤ x5 → K_81 x1 x2 x3 x4 N_h L_h) ∧ (¬ (10 ≤ x5) → wp_X7_isIn N_h x5 (fun (r58 : Int) => ((r58 = 0 → wp_X7_weak_46 K_81 Q n46 x1 x2 x3 (ior x4 0) (x5 + 1) N_h L_h) ∧ (¬ (r58 = 0) → wp_X7_weak_46 K_81 Q n46 x1 x2 x3 (ior x4 (ishl 1 x5)) (x5 + 1) N_h L_h)))))
def wp_X7_weak_87 (K_111 : Int → Int → Int → Int → Int → gMN → gML → Prop)  (Q : Int → gMN → gML → Prop) : Nat → Int → Int → Int → Int → Int → Int → gMN → gML → Prop
  | 0, _, _, _, _, _, _, _, _ => False
  | n87 + 1, x1, x2, x3, x4, x5, x7, N_h, L_h =>
    wp_X7_bits x4 (fun (r91 : Int) => rI x7 ∧ rI r91 ∧ ((r91 ≤ x7 → K_111 x1 x2 x3 x4 x5 N_h L_h) ∧ (¬ (r91 ≤ x7) → wp_X7_weak_87 K_111 Q n87 x1 x2 x3 x4 (x5 * 10) (x7 + 1) N_h L_h)))
def wp_X7_weak_226 (K_144 : Int → Int → Int → Int → Int → Int → Int → Int → Int → Int → gMN → gML → Prop)  (Q : Int → gMN → gML → Prop) (x1 : Int) (x2 : Int) (x3 : Int) (x4 : Int) (x5 : Int) (x7 : Int) (x9 : Int) (x10 : Int) (x13 : Int) (s0 : Int) (s1 : Int) (s2 : Int) (s3 : Int) (N_h : gMN) (L_h : gML) : Prop :=
    rI s3 ∧ rL s1 ∧ rL (s2 * s3) ∧ ((s1 ≤ (s2 * s3) → K_144 x1 x2 x3 x4 x5 x7 x9 x10 (s0 + 0) (x13 + 1) N_h L_h) ∧ (¬ (s1 ≤ (s2 * s3)) → K_144 x1 x2 x3 x4 x5 x7 x9 x10 (s0 + 1) (x13 + 1) N_h L_h))
def wp_X7_weak_182 (B_h : gMB) (K_144 : Int → Int → Int → Int → Int → Int → Int → Int → Int → Int → gMN → gML → Prop)  (Q : Int → gMN → gML → Prop) (x1 : Int) (x2 : Int) (x3 : Int) (x4 : Int) (x5 : Int) (x7 : Int) (x9 : Int) (x12 : Int) (x13 : Int) (s0 : Int) (s1 : Int) (N_h : gMN) (L_h : gML) : Prop :=
    (0 ≤ x13 ∧ x13 < 10) ∧ wp_X7_has x9 x13 (fun (r201 : Int) => ((r201 = 0 → wp_X7_weak_226 K_144 Q x1 x2 x3 x4 x5 x7 x9 (s0 * s1) x13 x12 (L_h x13) 60466176 (B_h.2.2.2.2 x13) N_h L_h) ∧ (¬ (r201 = 0) → rI (B_h.2.2.2.2 x13) ∧ wp_X7_weak_226 K_144 Q x1 x2 x3 x4 x5 x7 x9 (s0 * s1) x13 x12 (L_h x13) 60466176 ((B_h.2.2.2.2 x13).tdiv 2) N_h L_h)))
def wp_X7_weak_144 (B_h : gMB) (K_246 : Int → Int → Int → Int → Int → Int → Int → Int → Int → gMN → gML → Prop)  (Q : Int → gMN → gML → Prop) : Nat → Int → Int → Int → Int → Int → Int → Int → Int → Int → Int → gMN → gML → Prop
  | 0, _, _, _, _, _, _, _, _, _, _, _, _ => False
  | n144 + 1, x1, x2, x3, x4, x5, x7, x9, x10, x12, x13, N_h, L_h =>
    rI x13 ∧ ((10 ≤ x13 → K_246 x1 x2 x3 x4 x5 x7 x9 x10 x12 N_h L_h) ∧ (¬ (10 ≤ x13) → wp_X7_isIn N_h x13 (fun (r154 : Int) => ((r154 = 0 → wp_X7_weak_144 B_h K_246 Q n144 x1 x2 x3 x4 x5 x7 x9 x10 x12 (x13 + 1) N_h L_h) ∧ (¬ (r154 = 0) → wp_X7_has x9 x13 (fun (r166 : Int) => ((r166 = 0 → rI (10 - x1) ∧ wp_X7_weak_182 B_h (fun (x1 : Int) (x2 : Int) (x3 : Int) (x4 : Int) (x5 : Int) (x7 : Int) (x9 : Int) (x10 : Int) (x12 : Int) (x13 : Int) (N_h : gMN) (L_h : gML) => wp_X7_weak_144 B_h K_246 Q n144 x1 x2 x3 x4 x5 x7 x9 x10 x12 x13 N_h L_h) Q x1 x2 x3 x4 x5 x7 x9 x12 x13 x10 (10 - x1) N_h L_h) ∧ (¬ (r166 = 0) → rI x1 ∧ wp_X7_weak_182 B_h (fun (x1 : Int) (x2 : Int) (x3 : Int) (x4 : Int) (x5 : Int) (x7 : Int) (x9 : Int) (x10 : Int) (x12 : Int) (x13 : Int) (N_h : gMN) (L_h : gML) => wp_X7_weak_144 B_h K_246 Q n144 x1 x2 x3 x4 x5 x7 x9 x10 x12 x13 N_h L_h) Q x1 x2 x3 x4 x5 x7 x9 x12 x13 x10 x1 N_h L_h))))))))
def wp_X7_weak_117 (B_h : gMB) (K_282 : Int → Int → Int → gMN → gML → Prop)  (Q : Int → gMN → gML → Prop) : Nat → Int → Int → Int → Int → Int → Int → Int → gMN → gML → Prop
  | 0, _, _, _, _, _, _, _, _, _ => False
  | n117 + 1, x1, x2, x3, x4, x5, x7, x9, N_h, L_h =>
    rI x9 ∧ ((1024 ≤ x9 → K_282 x3 x5 x7 N_h L_h) ∧ (¬ (1024 ≤ x9) → rI (iand x9 (ixor x4 (-1))) ∧ ((¬ (iand x9 (ixor x4 (-1))) = 0 → wp_X7_weak_117 B_h K_282 Q n117 x1 x2 x3 x4 x5 x7 (x9 + 1) N_h L_h) ∧ (¬ (¬ (iand x9 (ixor x4 (-1))) = 0) → ∃ m144, wp_X7_weak_144 B_h (fun (x1 : Int) (x2 : Int) (x3 : Int) (x4 : Int) (x5 : Int) (x7 : Int) (x9 : Int) (x10 : Int) (x12 : Int) (N_h : gMN) (L_h : gML) => rI x2 ∧ ((¬ x2 = 1 → rI x12 ∧ ((¬ x12 = 0 → wp_X7_weak_117 B_h K_282 Q n117 x1 x2 x3 x4 x5 (x7 + 0) (x9 + 1) N_h L_h) ∧ (¬ (¬ x12 = 0) → wp_X7_weak_117 B_h K_282 Q n117 x1 x2 x3 x4 x5 (x7 + x10) (x9 + 1) N_h L_h))) ∧ (¬ (¬ x2 = 1) → rI x12 ∧ wp_X7_weak_117 B_h K_282 Q n117 x1 x2 x3 x4 x5 (x7 + (x10 * x12)) (x9 + 1) N_h L_h))) Q m144 x1 x2 x3 x4 x5 x7 x9 1 0 0 N_h L_h))))
def wp_X7_weak (B_h : gMB) (P_h : gMP) (N_h : gMN) (L_h : gML) (x1 : Int) (x2 : Int) (x3 : Int) (Q : Int → gMN → gML → Prop) : Prop :=
    wp_X7_in x1 0 10 (fun (r4 : Int) => ((r4 = 0 → Q (-1000000000000000002) N_h L_h) ∧ (¬ (r4 = 0) → wp_X7_in x2 0 1 (fun (r13 : Int) => ((r13 = 0 → Q (-1000000000000000002) N_h L_h) ∧ (¬ (r13 = 0) → wp_X7_in x3 0 1 (fun (r22 : Int) => ((¬ r22 = 0 → wp_X7_asNow P_h N_h (fun (N_h_33 : gMN) => wp_X7_layLoads B_h N_h_33 L_h (fun (L_h_37 : gML) => ∃ m46, wp_X7_weak_46 (fun (x1 : Int) (x2 : Int) (x3 : Int) (x4 : Int) (N_h : gMN) (L_h : gML) => ∃ m87, wp_X7_weak_87 (fun (x1 : Int) (x2 : Int) (x3 : Int) (x4 : Int) (x5 : Int) (N_h : gMN) (L_h : gML) => ∃ m117, wp_X7_weak_117 B_h (fun (x3 : Int) (x5 : Int) (x7 : Int) (N_h : gMN) (L_h : gML) => wp_X7_part x7 x5 x3 (fun (r287 : Int) => Q r287 N_h L_h)) Q m117 x1 x2 x3 x4 x5 0 0 N_h L_h) Q m87 x1 x2 x3 x4 1 0 N_h L_h) Q m46 x1 x2 x3 0 0 N_h_33 L_h_37))) ∧ (¬ (¬ r22 = 0) → Q (-1000000000000000002) N_h L_h)))))))))
set_option maxHeartbeats 4000000 in
set_option maxRecDepth 20000 in
theorem w_X7_weak_46 {l : Launch} {D : va_G} {cI cJ cZ : ClassId} {A : Nat → Prop} {K : KT} {qh : Nat → Nat} {B_h : gMB} {P_h : gMP} {E_h : gME} {V_h : gMV} {G_h : gMG} {D_h : gMD} {O_h : gMO} {Z_h : gMZ} {R_h : gMR} {I_h : gMI} {Q : Int → gMN → gML → Prop} {K_81 : Int → Int → Int → Int → gMN → gML → Prop} (C : KC cX7_weak yX7_weak.cls wsX7_weak rm_X7_weak 14 D (kT cI cJ cZ) A l false (rp_X7_weak cI cJ cZ qh B_h P_h E_h V_h G_h D_h O_h Z_h R_h I_h Q) 0 0 K) : ∀ (n : Nat) (x1 : Int) (x2 : Int) (x3 : Int) (x4 : Int) (x5 : Int) (N_h : gMN) (L_h : gML), wp_X7_weak_46 K_81 Q n x1 x2 x3 x4 x5 N_h L_h → (∀ (x1 : Int) (x2 : Int) (x3 : Int) (x4 : Int) (N_h : gMN) (L_h : gML), K_81 x1 x2 x3 x4 N_h L_h → K 0 0 81 [(0, .ref (qh 0)), (1, .int (iI x1)), (2, .int (iI x2)), (3, .int (iI x3)), (4, .int (iI x4))] [] ((wdM cI cJ cZ qh B_h P_h N_h L_h E_h V_h G_h D_h O_h Z_h R_h I_h))) → K 0 0 46 [(0, .ref (qh 0)), (1, .int (iI x1)), (2, .int (iI x2)), (3, .int (iI x3)), (4, .int (iI x4)), (5, .int (iI x5))] [] ((wdM cI cJ cZ qh B_h P_h N_h L_h E_h V_h G_h D_h O_h Z_h R_h I_h)) := by
  intro n
  induction n with
  | zero => intro x1 x2 x3 x4 x5 N_h L_h h; exact h.elim
  | succ n ih =>
    intro x1 x2 x3 x4 x5 N_h L_h h hK_81
    refine k_iload C dX7_weak_46 5 rfl 48 rfl ?_
    refine k_bipush C dX7_weak_48 (by decide) 50 rfl ?_
    obtain ⟨hr50a, h⟩ := h
    obtain ⟨ht, hf⟩ := h
    refine k_icmp_ge C dX7_weak_50 ⟨hr50a, (by decide)⟩ 81 53 (by decide) rfl (fun hc50 => ?_) (fun hc50 => ?_)
    · have h := ht hc50; clear ht hf
      refine k_lv C [0, 1, 2, 3, 4] [(0, .ref (qh 0)), (1, .int (iI x1)), (2, .int (iI x2)), (3, .int (iI x3)), (4, .int (iI x4))] rfl ?_
      exact hK_81 x1 x2 x3 x4 N_h L_h h
    · have h := hf hc50; clear ht hf
      refine k_iload C dX7_weak_53 4 rfl 55 rfl ?_
      refine k_aload_n C dX7_weak_55 0 rfl rfl 56 rfl ?_
      refine k_iload C dX7_weak_56 5 rfl 58 rfl ?_
      have hM := c_X7_isIn (l := l) (D := D) (cI := cI) (cJ := cJ) (cZ := cZ) qh B_h P_h N_h L_h E_h V_h G_h D_h O_h Z_h R_h I_h x5 _ h
      refine k_callV C dX7_weak_58 hM gX7_weak_X7_isIn rfl sg_X7_isIn 7 rfl rfl rfl (Nat.le_of_ble_eq_true rfl) ⟨⟨rfl, rfl⟩, by decide, by decide⟩ ⟨Nat.le_refl 0, Nat.le_refl 0⟩ [0, 1, 2, 3, 4, 5, 6, 7, 8, 9, 10, 11, 12, 13, 14, 15, 16] [] rfl rfl rfl rfl (by decide) 0 0 ⟨rfl, rfl⟩ 61 rfl (fun v w1 hq58 => ?_)
      obtain ⟨r58, rfl, rfl, hb58, h⟩ := hq58
      refine k_perm C [0, 1, 2, 3, 4, 5, 6, 7, 8, 9, 10, 11, 12, 13, 14, 15, 16] [.int (iI r58), .int (iI x4)] ((wdM cI cJ cZ qh B_h P_h N_h L_h E_h V_h G_h D_h O_h Z_h R_h I_h)) rfl rfl rfl ?_
      obtain ⟨ht, hf⟩ := h
      refine k_if_eq C dX7_weak_61 (by rcases hb58 with rfl | rfl <;> decide) 71 64 (by decide) rfl (fun hc61 => ?_) (fun hc61 => ?_)
      · have h := ht hc61; clear ht hf
        refine k_iconst C dX7_weak_71 72 rfl ?_
        refine k_ior C dX7_weak_72 73 rfl ?_
        refine k_istore C dX7_weak_73 (by decide) [(4, .int (iI (ior x4 0))), (0, .ref (qh 0)), (1, .int (iI x1)), (2, .int (iI x2)), (3, .int (iI x3)), (5, .int (iI x5))] rfl 75 rfl ?_
        refine k_iinc (j := 5) C dX7_weak_75 rfl (by decide) [(5, .int (iI (x5 + 1))), (4, .int (iI (ior x4 0))), (0, .ref (qh 0)), (1, .int (iI x1)), (2, .int (iI x2)), (3, .int (iI x3))] rfl 78 rfl ?_
        refine k_goto C dX7_weak_78 46 (by decide) ?_
        refine k_lv C [2, 3, 4, 5, 1, 0] [(0, .ref (qh 0)), (1, .int (iI x1)), (2, .int (iI x2)), (3, .int (iI x3)), (4, .int (iI (ior x4 0))), (5, .int (iI (x5 + 1)))] rfl ?_
        exact ih x1 x2 x3 (ior x4 0) (x5 + 1) N_h L_h h hK_81
      · have h := hf hc61; clear ht hf
        refine k_iconst C dX7_weak_64 65 rfl ?_
        refine k_iload C dX7_weak_65 5 rfl 67 rfl ?_
        refine k_ishl C dX7_weak_67 68 rfl ?_
        refine k_goto C dX7_weak_68 72 (by decide) ?_
        refine k_ior C dX7_weak_72 73 rfl ?_
        refine k_istore C dX7_weak_73 (by decide) [(4, .int (iI (ior x4 (ishl 1 x5)))), (0, .ref (qh 0)), (1, .int (iI x1)), (2, .int (iI x2)), (3, .int (iI x3)), (5, .int (iI x5))] rfl 75 rfl ?_
        refine k_iinc (j := 5) C dX7_weak_75 rfl (by decide) [(5, .int (iI (x5 + 1))), (4, .int (iI (ior x4 (ishl 1 x5)))), (0, .ref (qh 0)), (1, .int (iI x1)), (2, .int (iI x2)), (3, .int (iI x3))] rfl 78 rfl ?_
        refine k_goto C dX7_weak_78 46 (by decide) ?_
        refine k_lv C [2, 3, 4, 5, 1, 0] [(0, .ref (qh 0)), (1, .int (iI x1)), (2, .int (iI x2)), (3, .int (iI x3)), (4, .int (iI (ior x4 (ishl 1 x5)))), (5, .int (iI (x5 + 1)))] rfl ?_
        exact ih x1 x2 x3 (ior x4 (ishl 1 x5)) (x5 + 1) N_h L_h h hK_81
set_option maxHeartbeats 4000000 in
set_option maxRecDepth 20000 in
theorem w_X7_weak_87 {l : Launch} {D : va_G} {cI cJ cZ : ClassId} {A : Nat → Prop} {K : KT} {qh : Nat → Nat} {B_h : gMB} {P_h : gMP} {E_h : gME} {V_h : gMV} {G_h : gMG} {D_h : gMD} {O_h : gMO} {Z_h : gMZ} {R_h : gMR} {I_h : gMI} {Q : Int → gMN → gML → Prop} {K_111 : Int → Int → Int → Int → Int → gMN → gML → Prop} (C : KC cX7_weak yX7_weak.cls wsX7_weak rm_X7_weak 14 D (kT cI cJ cZ) A l false (rp_X7_weak cI cJ cZ qh B_h P_h E_h V_h G_h D_h O_h Z_h R_h I_h Q) 0 0 K) : ∀ (n : Nat) (x1 : Int) (x2 : Int) (x3 : Int) (x4 : Int) (x5 : Int) (x7 : Int) (N_h : gMN) (L_h : gML), wp_X7_weak_87 K_111 Q n x1 x2 x3 x4 x5 x7 N_h L_h → (∀ (x1 : Int) (x2 : Int) (x3 : Int) (x4 : Int) (x5 : Int) (N_h : gMN) (L_h : gML), K_111 x1 x2 x3 x4 x5 N_h L_h → K 0 0 111 [(0, .ref (qh 0)), (1, .int (iI x1)), (2, .int (iI x2)), (3, .int (iI x3)), (4, .int (iI x4)), (5, .long (lL x5))] [] ((wdM cI cJ cZ qh B_h P_h N_h L_h E_h V_h G_h D_h O_h Z_h R_h I_h))) → K 0 0 87 [(0, .ref (qh 0)), (1, .int (iI x1)), (2, .int (iI x2)), (3, .int (iI x3)), (4, .int (iI x4)), (5, .long (lL x5)), (7, .int (iI x7))] [] ((wdM cI cJ cZ qh B_h P_h N_h L_h E_h V_h G_h D_h O_h Z_h R_h I_h)) := by
  intro n
  induction n with
  | zero => intro x1 x2 x3 x4 x5 x7 N_h L_h h; exact h.elim
  | succ n ih =>
    intro x1 x2 x3 x4 x5 x7 N_h L_h h hK_111
    refine k_iload C dX7_weak_87 6 rfl 89 rfl ?_
    refine k_iload C dX7_weak_89 4 rfl 91 rfl ?_
    have hM := c_X7_bits (l := l) (D := D) (cI := cI) (cJ := cJ) (cZ := cZ) x4 _ h
    refine k_callS C dX7_weak_91 hM gX7_weak_X7_bits rfl sg_X7_bits rfl (Nat.le_of_ble_eq_true rfl) ⟨⟨rfl, rfl⟩, by decide, by decide⟩ ⟨Nat.le_refl 0, Nat.le_refl 0⟩ [] [0, 1, 2, 3, 4, 5, 6, 7, 8, 9, 10, 11, 12, 13, 14, 15, 16] rfl rfl rfl rfl (by decide) 0 0 ⟨rfl, rfl⟩ 94 rfl (fun v w1 hq91 => ?_)
    obtain ⟨r91, rfl, rfl, h⟩ := hq91
    refine k_perm C [0, 1, 2, 3, 4, 5, 6, 7, 8, 9, 10, 11, 12, 13, 14, 15, 16] [.int (iI r91), .int (iI x7)] ((wdM cI cJ cZ qh B_h P_h N_h L_h E_h V_h G_h D_h O_h Z_h R_h I_h)) rfl rfl rfl ?_
    obtain ⟨hr94a, hr94b, h⟩ := h
    obtain ⟨ht, hf⟩ := h
    refine k_icmp_ge C dX7_weak_94 ⟨hr94a, hr94b⟩ 111 97 (by decide) rfl (fun hc94 => ?_) (fun hc94 => ?_)
    · have h := ht hc94; clear ht hf
      refine k_lv C [0, 1, 2, 3, 4, 5] [(0, .ref (qh 0)), (1, .int (iI x1)), (2, .int (iI x2)), (3, .int (iI x3)), (4, .int (iI x4)), (5, .long (lL x5))] rfl ?_
      exact hK_111 x1 x2 x3 x4 x5 N_h L_h h
    · have h := hf hc94; clear ht hf
      refine k_lload C dX7_weak_97 5 rfl 99 rfl ?_
      refine k_ldc2 (v := 10) C dX7_weak_99 (List.mem_of_getElem? (i := 2) rfl) (by decide) 102 rfl ?_
      refine k_lmul C dX7_weak_102 103 rfl ?_
      refine k_lstore C dX7_weak_103 (by decide) [(5, .long (lL (x5 * 10))), (0, .ref (qh 0)), (1, .int (iI x1)), (2, .int (iI x2)), (3, .int (iI x3)), (4, .int (iI x4)), (7, .int (iI x7))] rfl 105 rfl ?_
      refine k_iinc (j := 6) C dX7_weak_105 rfl (by decide) [(7, .int (iI (x7 + 1))), (5, .long (lL (x5 * 10))), (0, .ref (qh 0)), (1, .int (iI x1)), (2, .int (iI x2)), (3, .int (iI x3)), (4, .int (iI x4))] rfl 108 rfl ?_
      refine k_goto C dX7_weak_108 87 (by decide) ?_
      refine k_lv C [2, 3, 4, 5, 6, 1, 0] [(0, .ref (qh 0)), (1, .int (iI x1)), (2, .int (iI x2)), (3, .int (iI x3)), (4, .int (iI x4)), (5, .long (lL (x5 * 10))), (7, .int (iI (x7 + 1)))] rfl ?_
      exact ih x1 x2 x3 x4 (x5 * 10) (x7 + 1) N_h L_h h hK_111
set_option maxHeartbeats 4000000 in
set_option maxRecDepth 20000 in
theorem w_X7_weak_226 {l : Launch} {D : va_G} {cI cJ cZ : ClassId} {A : Nat → Prop} {K : KT} {qh : Nat → Nat} {B_h : gMB} {P_h : gMP} {E_h : gME} {V_h : gMV} {G_h : gMG} {D_h : gMD} {O_h : gMO} {Z_h : gMZ} {R_h : gMR} {I_h : gMI} {Q : Int → gMN → gML → Prop} {K_144 : Int → Int → Int → Int → Int → Int → Int → Int → Int → Int → gMN → gML → Prop} (C : KC cX7_weak yX7_weak.cls wsX7_weak rm_X7_weak 14 D (kT cI cJ cZ) A l false (rp_X7_weak cI cJ cZ qh B_h P_h E_h V_h G_h D_h O_h Z_h R_h I_h Q) 0 0 K) : ∀ (x1 : Int) (x2 : Int) (x3 : Int) (x4 : Int) (x5 : Int) (x7 : Int) (x9 : Int) (x10 : Int) (x13 : Int) (s0 : Int) (s1 : Int) (s2 : Int) (s3 : Int) (N_h : gMN) (L_h : gML), wp_X7_weak_226 K_144 Q x1 x2 x3 x4 x5 x7 x9 x10 x13 s0 s1 s2 s3 N_h L_h → (∀ (x1 : Int) (x2 : Int) (x3 : Int) (x4 : Int) (x5 : Int) (x7 : Int) (x9 : Int) (x10 : Int) (x12 : Int) (x13 : Int) (N_h : gMN) (L_h : gML), K_144 x1 x2 x3 x4 x5 x7 x9 x10 x12 x13 N_h L_h → K 0 0 144 [(0, .ref (qh 0)), (1, .int (iI x1)), (2, .int (iI x2)), (3, .int (iI x3)), (4, .int (iI x4)), (5, .long (lL x5)), (7, .long (lL x7)), (9, .int (iI x9)), (10, .long (lL x10)), (12, .int (iI x12)), (13, .int (iI x13))] [] ((wdM cI cJ cZ qh B_h P_h N_h L_h E_h V_h G_h D_h O_h Z_h R_h I_h))) → K 0 0 226 [(0, .ref (qh 0)), (1, .int (iI x1)), (2, .int (iI x2)), (3, .int (iI x3)), (4, .int (iI x4)), (5, .long (lL x5)), (7, .long (lL x7)), (9, .int (iI x9)), (10, .long (lL x10)), (13, .int (iI x13))] [.int (iI s3), .long (lL s2), .long (lL s1), .int (iI s0)] ((wdM cI cJ cZ qh B_h P_h N_h L_h E_h V_h G_h D_h O_h Z_h R_h I_h)) := by
  intro x1 x2 x3 x4 x5 x7 x9 x10 x13 s0 s1 s2 s3 N_h L_h h hK_144
  obtain ⟨hr226a, h⟩ := h
  refine k_i2l C dX7_weak_226 hr226a 227 rfl ?_
  refine k_lmul C dX7_weak_227 228 rfl ?_
  obtain ⟨hr228a, hr228b, h⟩ := h
  obtain ⟨ht, hf⟩ := h
  refine k_lcmp_le C dX7_weak_228 dX7_weak_229 ⟨hr228a, hr228b⟩ 236 232 (by decide) rfl (fun hc228 => ?_) (fun hc228 => ?_)
  · have h := ht hc228; clear ht hf
    refine k_iconst C dX7_weak_236 237 rfl ?_
    refine k_iadd C dX7_weak_237 238 rfl ?_
    refine k_istore C dX7_weak_238 (by decide) [(12, .int (iI (s0 + 0))), (0, .ref (qh 0)), (1, .int (iI x1)), (2, .int (iI x2)), (3, .int (iI x3)), (4, .int (iI x4)), (5, .long (lL x5)), (7, .long (lL x7)), (9, .int (iI x9)), (10, .long (lL x10)), (13, .int (iI x13))] rfl 240 rfl ?_
    refine k_iinc (j := 10) C dX7_weak_240 rfl (by decide) [(13, .int (iI (x13 + 1))), (12, .int (iI (s0 + 0))), (0, .ref (qh 0)), (1, .int (iI x1)), (2, .int (iI x2)), (3, .int (iI x3)), (4, .int (iI x4)), (5, .long (lL x5)), (7, .long (lL x7)), (9, .int (iI x9)), (10, .long (lL x10))] rfl 243 rfl ?_
    refine k_goto C dX7_weak_243 144 (by decide) ?_
    refine k_lv C [2, 3, 4, 5, 6, 7, 8, 9, 10, 1, 0] [(0, .ref (qh 0)), (1, .int (iI x1)), (2, .int (iI x2)), (3, .int (iI x3)), (4, .int (iI x4)), (5, .long (lL x5)), (7, .long (lL x7)), (9, .int (iI x9)), (10, .long (lL x10)), (12, .int (iI (s0 + 0))), (13, .int (iI (x13 + 1)))] rfl ?_
    exact hK_144 x1 x2 x3 x4 x5 x7 x9 x10 (s0 + 0) (x13 + 1) N_h L_h h
  · have h := hf hc228; clear ht hf
    refine k_iconst C dX7_weak_232 233 rfl ?_
    refine k_goto C dX7_weak_233 237 (by decide) ?_
    refine k_iadd C dX7_weak_237 238 rfl ?_
    refine k_istore C dX7_weak_238 (by decide) [(12, .int (iI (s0 + 1))), (0, .ref (qh 0)), (1, .int (iI x1)), (2, .int (iI x2)), (3, .int (iI x3)), (4, .int (iI x4)), (5, .long (lL x5)), (7, .long (lL x7)), (9, .int (iI x9)), (10, .long (lL x10)), (13, .int (iI x13))] rfl 240 rfl ?_
    refine k_iinc (j := 10) C dX7_weak_240 rfl (by decide) [(13, .int (iI (x13 + 1))), (12, .int (iI (s0 + 1))), (0, .ref (qh 0)), (1, .int (iI x1)), (2, .int (iI x2)), (3, .int (iI x3)), (4, .int (iI x4)), (5, .long (lL x5)), (7, .long (lL x7)), (9, .int (iI x9)), (10, .long (lL x10))] rfl 243 rfl ?_
    refine k_goto C dX7_weak_243 144 (by decide) ?_
    refine k_lv C [2, 3, 4, 5, 6, 7, 8, 9, 10, 1, 0] [(0, .ref (qh 0)), (1, .int (iI x1)), (2, .int (iI x2)), (3, .int (iI x3)), (4, .int (iI x4)), (5, .long (lL x5)), (7, .long (lL x7)), (9, .int (iI x9)), (10, .long (lL x10)), (12, .int (iI (s0 + 1))), (13, .int (iI (x13 + 1)))] rfl ?_
    exact hK_144 x1 x2 x3 x4 x5 x7 x9 x10 (s0 + 1) (x13 + 1) N_h L_h h
set_option maxHeartbeats 4000000 in
set_option maxRecDepth 20000 in
theorem w_X7_weak_182 {l : Launch} {D : va_G} {cI cJ cZ : ClassId} {A : Nat → Prop} {K : KT} {qh : Nat → Nat} {B_h : gMB} {P_h : gMP} {E_h : gME} {V_h : gMV} {G_h : gMG} {D_h : gMD} {O_h : gMO} {Z_h : gMZ} {R_h : gMR} {I_h : gMI} {Q : Int → gMN → gML → Prop} {K_144 : Int → Int → Int → Int → Int → Int → Int → Int → Int → Int → gMN → gML → Prop} (C : KC cX7_weak yX7_weak.cls wsX7_weak rm_X7_weak 14 D (kT cI cJ cZ) A l false (rp_X7_weak cI cJ cZ qh B_h P_h E_h V_h G_h D_h O_h Z_h R_h I_h Q) 0 0 K) : ∀ (x1 : Int) (x2 : Int) (x3 : Int) (x4 : Int) (x5 : Int) (x7 : Int) (x9 : Int) (x12 : Int) (x13 : Int) (s0 : Int) (s1 : Int) (N_h : gMN) (L_h : gML), wp_X7_weak_182 B_h K_144 Q x1 x2 x3 x4 x5 x7 x9 x12 x13 s0 s1 N_h L_h → (∀ (x1 : Int) (x2 : Int) (x3 : Int) (x4 : Int) (x5 : Int) (x7 : Int) (x9 : Int) (x10 : Int) (x12 : Int) (x13 : Int) (N_h : gMN) (L_h : gML), K_144 x1 x2 x3 x4 x5 x7 x9 x10 x12 x13 N_h L_h → K 0 0 144 [(0, .ref (qh 0)), (1, .int (iI x1)), (2, .int (iI x2)), (3, .int (iI x3)), (4, .int (iI x4)), (5, .long (lL x5)), (7, .long (lL x7)), (9, .int (iI x9)), (10, .long (lL x10)), (12, .int (iI x12)), (13, .int (iI x13))] [] ((wdM cI cJ cZ qh B_h P_h N_h L_h E_h V_h G_h D_h O_h Z_h R_h I_h))) → K 0 0 182 [(0, .ref (qh 0)), (1, .int (iI x1)), (2, .int (iI x2)), (3, .int (iI x3)), (4, .int (iI x4)), (5, .long (lL x5)), (7, .long (lL x7)), (9, .int (iI x9)), (12, .int (iI x12)), (13, .int (iI x13))] [.long (lL s1), .long (lL s0)] ((wdM cI cJ cZ qh B_h P_h N_h L_h E_h V_h G_h D_h O_h Z_h R_h I_h)) := by
  intro x1 x2 x3 x4 x5 x7 x9 x12 x13 s0 s1 N_h L_h h hK_144
  refine k_lmul C dX7_weak_182 183 rfl ?_
  refine k_lstore C dX7_weak_183 (by decide) [(10, .long (lL (s0 * s1))), (0, .ref (qh 0)), (1, .int (iI x1)), (2, .int (iI x2)), (3, .int (iI x3)), (4, .int (iI x4)), (5, .long (lL x5)), (7, .long (lL x7)), (9, .int (iI x9)), (12, .int (iI x12)), (13, .int (iI x13))] rfl 185 rfl ?_
  refine k_iload C dX7_weak_185 9 rfl 187 rfl ?_
  refine k_aload_n C dX7_weak_187 1 rfl rfl 188 rfl ?_
  refine k_get C dX7_weak_188 0 rfl (ci := 7) rfl hin_X7_weak_7 13 (by decide) (List.mem_of_getElem? (i := 3) rfl) rfl 191 rfl ?_
  refine k_iload C dX7_weak_191 10 rfl 193 rfl ?_
  obtain ⟨hi193, h⟩ := h
  refine k_laload C dX7_weak_193 10 1 rfl rfl (by decide) hi193 194 rfl ?_
  refine k_ldc2 (v := 60466176) C dX7_weak_194 (List.mem_of_getElem? (i := 4) rfl) (by decide) 197 rfl ?_
  refine k_iload C dX7_weak_197 8 rfl 199 rfl ?_
  refine k_iload C dX7_weak_199 10 rfl 201 rfl ?_
  have hM := c_X7_has (l := l) (D := D) (cI := cI) (cJ := cJ) (cZ := cZ) x9 x13 _ h
  refine k_callS C dX7_weak_201 hM gX7_weak_X7_has rfl sg_X7_has rfl (Nat.le_of_ble_eq_true rfl) ⟨⟨rfl, rfl⟩, by decide, by decide⟩ ⟨Nat.le_refl 0, Nat.le_refl 0⟩ [] [0, 1, 2, 3, 4, 5, 6, 7, 8, 9, 10, 11, 12, 13, 14, 15, 16] rfl rfl rfl rfl (by decide) 0 0 ⟨rfl, rfl⟩ 204 rfl (fun v w1 hq201 => ?_)
  obtain ⟨r201, rfl, rfl, hb201, h⟩ := hq201
  refine k_perm C [0, 1, 2, 3, 4, 5, 6, 7, 8, 9, 10, 11, 12, 13, 14, 15, 16] [.int (iI r201), .long (lL 60466176), .long (lL (L_h x13)), .int (iI x12)] ((wdM cI cJ cZ qh B_h P_h N_h L_h E_h V_h G_h D_h O_h Z_h R_h I_h)) rfl rfl rfl ?_
  obtain ⟨ht, hf⟩ := h
  refine k_if_eq C dX7_weak_204 (by rcases hb201 with rfl | rfl <;> decide) 219 207 (by decide) rfl (fun hc204 => ?_) (fun hc204 => ?_)
  · have h := ht hc204; clear ht hf
    refine k_aload_n C dX7_weak_219 1 rfl rfl 220 rfl ?_
    refine k_get C dX7_weak_220 0 rfl (ci := 7) rfl hin_X7_weak_7 4 (by decide) (List.mem_of_getElem? (i := 5) rfl) rfl 223 rfl ?_
    refine k_iload C dX7_weak_223 10 rfl 225 rfl ?_
    refine k_iaload C dX7_weak_225 3 0 rfl rfl (by decide) hi193 226 rfl ?_
    refine k_lv C [1, 2, 3, 4, 5, 6, 7, 8, 0, 10] [(0, .ref (qh 0)), (1, .int (iI x1)), (2, .int (iI x2)), (3, .int (iI x3)), (4, .int (iI x4)), (5, .long (lL x5)), (7, .long (lL x7)), (9, .int (iI x9)), (10, .long (lL (s0 * s1))), (13, .int (iI x13))] rfl ?_
    refine w_X7_weak_226 C x1 x2 x3 x4 x5 x7 x9 (s0 * s1) x13 x12 (L_h x13) 60466176 (B_h.2.2.2.2 x13) N_h L_h h hK_144
  · have h := hf hc204; clear ht hf
    refine k_aload_n C dX7_weak_207 1 rfl rfl 208 rfl ?_
    refine k_get C dX7_weak_208 0 rfl (ci := 7) rfl hin_X7_weak_7 4 (by decide) (List.mem_of_getElem? (i := 5) rfl) rfl 211 rfl ?_
    refine k_iload C dX7_weak_211 10 rfl 213 rfl ?_
    refine k_iaload C dX7_weak_213 3 0 rfl rfl (by decide) hi193 214 rfl ?_
    refine k_iconst C dX7_weak_214 215 rfl ?_
    obtain ⟨hr215a, h⟩ := h
    refine k_idiv C dX7_weak_215 ⟨hr215a, (by decide), (by decide)⟩ 216 rfl ?_
    refine k_goto C dX7_weak_216 226 (by decide) ?_
    refine k_lv C [1, 2, 3, 4, 5, 6, 7, 8, 0, 10] [(0, .ref (qh 0)), (1, .int (iI x1)), (2, .int (iI x2)), (3, .int (iI x3)), (4, .int (iI x4)), (5, .long (lL x5)), (7, .long (lL x7)), (9, .int (iI x9)), (10, .long (lL (s0 * s1))), (13, .int (iI x13))] rfl ?_
    refine w_X7_weak_226 C x1 x2 x3 x4 x5 x7 x9 (s0 * s1) x13 x12 (L_h x13) 60466176 ((B_h.2.2.2.2 x13).tdiv 2) N_h L_h h hK_144
set_option maxHeartbeats 4000000 in
set_option maxRecDepth 20000 in
theorem w_X7_weak_144 {l : Launch} {D : va_G} {cI cJ cZ : ClassId} {A : Nat → Prop} {K : KT} {qh : Nat → Nat} {B_h : gMB} {P_h : gMP} {E_h : gME} {V_h : gMV} {G_h : gMG} {D_h : gMD} {O_h : gMO} {Z_h : gMZ} {R_h : gMR} {I_h : gMI} {Q : Int → gMN → gML → Prop} {K_246 : Int → Int → Int → Int → Int → Int → Int → Int → Int → gMN → gML → Prop} (C : KC cX7_weak yX7_weak.cls wsX7_weak rm_X7_weak 14 D (kT cI cJ cZ) A l false (rp_X7_weak cI cJ cZ qh B_h P_h E_h V_h G_h D_h O_h Z_h R_h I_h Q) 0 0 K) : ∀ (n : Nat) (x1 : Int) (x2 : Int) (x3 : Int) (x4 : Int) (x5 : Int) (x7 : Int) (x9 : Int) (x10 : Int) (x12 : Int) (x13 : Int) (N_h : gMN) (L_h : gML), wp_X7_weak_144 B_h K_246 Q n x1 x2 x3 x4 x5 x7 x9 x10 x12 x13 N_h L_h → (∀ (x1 : Int) (x2 : Int) (x3 : Int) (x4 : Int) (x5 : Int) (x7 : Int) (x9 : Int) (x10 : Int) (x12 : Int) (N_h : gMN) (L_h : gML), K_246 x1 x2 x3 x4 x5 x7 x9 x10 x12 N_h L_h → K 0 0 246 [(0, .ref (qh 0)), (1, .int (iI x1)), (2, .int (iI x2)), (3, .int (iI x3)), (4, .int (iI x4)), (5, .long (lL x5)), (7, .long (lL x7)), (9, .int (iI x9)), (10, .long (lL x10)), (12, .int (iI x12))] [] ((wdM cI cJ cZ qh B_h P_h N_h L_h E_h V_h G_h D_h O_h Z_h R_h I_h))) → K 0 0 144 [(0, .ref (qh 0)), (1, .int (iI x1)), (2, .int (iI x2)), (3, .int (iI x3)), (4, .int (iI x4)), (5, .long (lL x5)), (7, .long (lL x7)), (9, .int (iI x9)), (10, .long (lL x10)), (12, .int (iI x12)), (13, .int (iI x13))] [] ((wdM cI cJ cZ qh B_h P_h N_h L_h E_h V_h G_h D_h O_h Z_h R_h I_h)) := by
  intro n
  induction n with
  | zero => intro x1 x2 x3 x4 x5 x7 x9 x10 x12 x13 N_h L_h h; exact h.elim
  | succ n ih =>
    intro x1 x2 x3 x4 x5 x7 x9 x10 x12 x13 N_h L_h h hK_246
    refine k_iload C dX7_weak_144 10 rfl 146 rfl ?_
    refine k_bipush C dX7_weak_146 (by decide) 148 rfl ?_
    obtain ⟨hr148a, h⟩ := h
    obtain ⟨ht, hf⟩ := h
    refine k_icmp_ge C dX7_weak_148 ⟨hr148a, (by decide)⟩ 246 151 (by decide) rfl (fun hc148 => ?_) (fun hc148 => ?_)
    · have h := ht hc148; clear ht hf
      refine k_lv C [0, 1, 2, 3, 4, 5, 6, 7, 8, 9] [(0, .ref (qh 0)), (1, .int (iI x1)), (2, .int (iI x2)), (3, .int (iI x3)), (4, .int (iI x4)), (5, .long (lL x5)), (7, .long (lL x7)), (9, .int (iI x9)), (10, .long (lL x10)), (12, .int (iI x12))] rfl ?_
      exact hK_246 x1 x2 x3 x4 x5 x7 x9 x10 x12 N_h L_h h
    · have h := hf hc148; clear ht hf
      refine k_aload_n C dX7_weak_151 0 rfl rfl 152 rfl ?_
      refine k_iload C dX7_weak_152 10 rfl 154 rfl ?_
      have hM := c_X7_isIn (l := l) (D := D) (cI := cI) (cJ := cJ) (cZ := cZ) qh B_h P_h N_h L_h E_h V_h G_h D_h O_h Z_h R_h I_h x13 _ h
      refine k_callV C dX7_weak_154 hM gX7_weak_X7_isIn rfl sg_X7_isIn 7 rfl rfl rfl (Nat.le_of_ble_eq_true rfl) ⟨⟨rfl, rfl⟩, by decide, by decide⟩ ⟨Nat.le_refl 0, Nat.le_refl 0⟩ [0, 1, 2, 3, 4, 5, 6, 7, 8, 9, 10, 11, 12, 13, 14, 15, 16] [] rfl rfl rfl rfl (by decide) 0 0 ⟨rfl, rfl⟩ 157 rfl (fun v w1 hq154 => ?_)
      obtain ⟨r154, rfl, rfl, hb154, h⟩ := hq154
      refine k_perm C [0, 1, 2, 3, 4, 5, 6, 7, 8, 9, 10, 11, 12, 13, 14, 15, 16] [.int (iI r154)] ((wdM cI cJ cZ qh B_h P_h N_h L_h E_h V_h G_h D_h O_h Z_h R_h I_h)) rfl rfl rfl ?_
      obtain ⟨ht, hf⟩ := h
      refine k_if_eq C dX7_weak_157 (by rcases hb154 with rfl | rfl <;> decide) 240 160 (by decide) rfl (fun hc157 => ?_) (fun hc157 => ?_)
      · have h := ht hc157; clear ht hf
        refine k_iinc (j := 10) C dX7_weak_240 rfl (by decide) [(13, .int (iI (x13 + 1))), (0, .ref (qh 0)), (1, .int (iI x1)), (2, .int (iI x2)), (3, .int (iI x3)), (4, .int (iI x4)), (5, .long (lL x5)), (7, .long (lL x7)), (9, .int (iI x9)), (10, .long (lL x10)), (12, .int (iI x12))] rfl 243 rfl ?_
        refine k_goto C dX7_weak_243 144 (by decide) ?_
        refine k_lv C [1, 2, 3, 4, 5, 6, 7, 8, 9, 10, 0] [(0, .ref (qh 0)), (1, .int (iI x1)), (2, .int (iI x2)), (3, .int (iI x3)), (4, .int (iI x4)), (5, .long (lL x5)), (7, .long (lL x7)), (9, .int (iI x9)), (10, .long (lL x10)), (12, .int (iI x12)), (13, .int (iI (x13 + 1)))] rfl ?_
        exact ih x1 x2 x3 x4 x5 x7 x9 x10 x12 (x13 + 1) N_h L_h h hK_246
      · have h := hf hc157; clear ht hf
        refine k_lload C dX7_weak_160 8 rfl 162 rfl ?_
        refine k_iload C dX7_weak_162 7 rfl 164 rfl ?_
        refine k_iload C dX7_weak_164 10 rfl 166 rfl ?_
        have hM := c_X7_has (l := l) (D := D) (cI := cI) (cJ := cJ) (cZ := cZ) x9 x13 _ h
        refine k_callS C dX7_weak_166 hM gX7_weak_X7_has rfl sg_X7_has rfl (Nat.le_of_ble_eq_true rfl) ⟨⟨rfl, rfl⟩, by decide, by decide⟩ ⟨Nat.le_refl 0, Nat.le_refl 0⟩ [] [0, 1, 2, 3, 4, 5, 6, 7, 8, 9, 10, 11, 12, 13, 14, 15, 16] rfl rfl rfl rfl (by decide) 0 0 ⟨rfl, rfl⟩ 169 rfl (fun v w1 hq166 => ?_)
        obtain ⟨r166, rfl, rfl, hb166, h⟩ := hq166
        refine k_perm C [0, 1, 2, 3, 4, 5, 6, 7, 8, 9, 10, 11, 12, 13, 14, 15, 16] [.int (iI r166), .long (lL x10)] ((wdM cI cJ cZ qh B_h P_h N_h L_h E_h V_h G_h D_h O_h Z_h R_h I_h)) rfl rfl rfl ?_
        obtain ⟨ht, hf⟩ := h
        refine k_if_eq C dX7_weak_169 (by rcases hb166 with rfl | rfl <;> decide) 177 172 (by decide) rfl (fun hc169 => ?_) (fun hc169 => ?_)
        · have h := ht hc169; clear ht hf
          refine k_bipush C dX7_weak_177 (by decide) 179 rfl ?_
          refine k_iload_n C dX7_weak_179 1 rfl rfl 180 rfl ?_
          refine k_isub C dX7_weak_180 181 rfl ?_
          obtain ⟨hr181a, h⟩ := h
          refine k_i2l C dX7_weak_181 hr181a 182 rfl ?_
          refine k_lv C [0, 1, 2, 3, 4, 5, 6, 7, 9, 10] [(0, .ref (qh 0)), (1, .int (iI x1)), (2, .int (iI x2)), (3, .int (iI x3)), (4, .int (iI x4)), (5, .long (lL x5)), (7, .long (lL x7)), (9, .int (iI x9)), (12, .int (iI x12)), (13, .int (iI x13))] rfl ?_
          refine w_X7_weak_182 C x1 x2 x3 x4 x5 x7 x9 x12 x13 x10 (10 - x1) N_h L_h h (fun x1 x2 x3 x4 x5 x7 x9 x10 x12 x13 N_h L_h h => ?_)
          · exact ih x1 x2 x3 x4 x5 x7 x9 x10 x12 x13 N_h L_h h hK_246
        · have h := hf hc169; clear ht hf
          refine k_iload_n C dX7_weak_172 1 rfl rfl 173 rfl ?_
          obtain ⟨hr173a, h⟩ := h
          refine k_i2l C dX7_weak_173 hr173a 174 rfl ?_
          refine k_goto C dX7_weak_174 182 (by decide) ?_
          refine k_lv C [0, 1, 2, 3, 4, 5, 6, 7, 9, 10] [(0, .ref (qh 0)), (1, .int (iI x1)), (2, .int (iI x2)), (3, .int (iI x3)), (4, .int (iI x4)), (5, .long (lL x5)), (7, .long (lL x7)), (9, .int (iI x9)), (12, .int (iI x12)), (13, .int (iI x13))] rfl ?_
          refine w_X7_weak_182 C x1 x2 x3 x4 x5 x7 x9 x12 x13 x10 x1 N_h L_h h (fun x1 x2 x3 x4 x5 x7 x9 x10 x12 x13 N_h L_h h => ?_)
          · exact ih x1 x2 x3 x4 x5 x7 x9 x10 x12 x13 N_h L_h h hK_246
set_option maxHeartbeats 4000000 in
set_option maxRecDepth 20000 in
theorem w_X7_weak_117 {l : Launch} {D : va_G} {cI cJ cZ : ClassId} {A : Nat → Prop} {K : KT} {qh : Nat → Nat} {B_h : gMB} {P_h : gMP} {E_h : gME} {V_h : gMV} {G_h : gMG} {D_h : gMD} {O_h : gMO} {Z_h : gMZ} {R_h : gMR} {I_h : gMI} {Q : Int → gMN → gML → Prop} {K_282 : Int → Int → Int → gMN → gML → Prop} (C : KC cX7_weak yX7_weak.cls wsX7_weak rm_X7_weak 14 D (kT cI cJ cZ) A l false (rp_X7_weak cI cJ cZ qh B_h P_h E_h V_h G_h D_h O_h Z_h R_h I_h Q) 0 0 K) : ∀ (n : Nat) (x1 : Int) (x2 : Int) (x3 : Int) (x4 : Int) (x5 : Int) (x7 : Int) (x9 : Int) (N_h : gMN) (L_h : gML), wp_X7_weak_117 B_h K_282 Q n x1 x2 x3 x4 x5 x7 x9 N_h L_h → (∀ (x3 : Int) (x5 : Int) (x7 : Int) (N_h : gMN) (L_h : gML), K_282 x3 x5 x7 N_h L_h → K 0 0 282 [(3, .int (iI x3)), (5, .long (lL x5)), (7, .long (lL x7))] [] ((wdM cI cJ cZ qh B_h P_h N_h L_h E_h V_h G_h D_h O_h Z_h R_h I_h))) → K 0 0 117 [(0, .ref (qh 0)), (1, .int (iI x1)), (2, .int (iI x2)), (3, .int (iI x3)), (4, .int (iI x4)), (5, .long (lL x5)), (7, .long (lL x7)), (9, .int (iI x9))] [] ((wdM cI cJ cZ qh B_h P_h N_h L_h E_h V_h G_h D_h O_h Z_h R_h I_h)) := by
  intro n
  induction n with
  | zero => intro x1 x2 x3 x4 x5 x7 x9 N_h L_h h; exact h.elim
  | succ n ih =>
    intro x1 x2 x3 x4 x5 x7 x9 N_h L_h h hK_282
    refine k_iload C dX7_weak_117 7 rfl 119 rfl ?_
    refine k_sipush C dX7_weak_119 (by decide) 122 rfl ?_
    obtain ⟨hr122a, h⟩ := h
    obtain ⟨ht, hf⟩ := h
    refine k_icmp_ge C dX7_weak_122 ⟨hr122a, (by decide)⟩ 282 125 (by decide) rfl (fun hc122 => ?_) (fun hc122 => ?_)
    · have h := ht hc122; clear ht hf
      refine k_lv C [3, 5, 6] [(3, .int (iI x3)), (5, .long (lL x5)), (7, .long (lL x7))] rfl ?_
      exact hK_282 x3 x5 x7 N_h L_h h
    · have h := hf hc122; clear ht hf
      refine k_iload C dX7_weak_125 7 rfl 127 rfl ?_
      refine k_iload C dX7_weak_127 4 rfl 129 rfl ?_
      refine k_iconst C dX7_weak_129 130 rfl ?_
      refine k_ixor C dX7_weak_130 131 rfl ?_
      refine k_iand C dX7_weak_131 132 rfl ?_
      obtain ⟨hr132a, h⟩ := h
      obtain ⟨ht, hf⟩ := h
      refine k_if_ne C dX7_weak_132 hr132a 276 135 (by decide) rfl (fun hc132 => ?_) (fun hc132 => ?_)
      · have h := ht hc132; clear ht hf
        refine k_iinc (j := 7) C dX7_weak_276 rfl (by decide) [(9, .int (iI (x9 + 1))), (0, .ref (qh 0)), (1, .int (iI x1)), (2, .int (iI x2)), (3, .int (iI x3)), (4, .int (iI x4)), (5, .long (lL x5)), (7, .long (lL x7))] rfl 279 rfl ?_
        refine k_goto C dX7_weak_279 117 (by decide) ?_
        refine k_lv C [1, 2, 3, 4, 5, 6, 7, 0] [(0, .ref (qh 0)), (1, .int (iI x1)), (2, .int (iI x2)), (3, .int (iI x3)), (4, .int (iI x4)), (5, .long (lL x5)), (7, .long (lL x7)), (9, .int (iI (x9 + 1)))] rfl ?_
        exact ih x1 x2 x3 x4 x5 x7 (x9 + 1) N_h L_h h hK_282
      · have h := hf hc132; clear ht hf
        refine k_lconst (v := 1) C dX7_weak_135 (by decide) 136 rfl ?_
        refine k_lstore C dX7_weak_136 (by decide) [(10, .long (lL 1)), (0, .ref (qh 0)), (1, .int (iI x1)), (2, .int (iI x2)), (3, .int (iI x3)), (4, .int (iI x4)), (5, .long (lL x5)), (7, .long (lL x7)), (9, .int (iI x9))] rfl 138 rfl ?_
        refine k_iconst C dX7_weak_138 139 rfl ?_
        refine k_istore C dX7_weak_139 (by decide) [(12, .int (iI 0)), (10, .long (lL 1)), (0, .ref (qh 0)), (1, .int (iI x1)), (2, .int (iI x2)), (3, .int (iI x3)), (4, .int (iI x4)), (5, .long (lL x5)), (7, .long (lL x7)), (9, .int (iI x9))] rfl 141 rfl ?_
        refine k_iconst C dX7_weak_141 142 rfl ?_
        refine k_istore C dX7_weak_142 (by decide) [(13, .int (iI 0)), (12, .int (iI 0)), (10, .long (lL 1)), (0, .ref (qh 0)), (1, .int (iI x1)), (2, .int (iI x2)), (3, .int (iI x3)), (4, .int (iI x4)), (5, .long (lL x5)), (7, .long (lL x7)), (9, .int (iI x9))] rfl 144 rfl ?_
        refine k_lv C [3, 4, 5, 6, 7, 8, 9, 10, 2, 1, 0] [(0, .ref (qh 0)), (1, .int (iI x1)), (2, .int (iI x2)), (3, .int (iI x3)), (4, .int (iI x4)), (5, .long (lL x5)), (7, .long (lL x7)), (9, .int (iI x9)), (10, .long (lL 1)), (12, .int (iI 0)), (13, .int (iI 0))] rfl ?_
        obtain ⟨m144, h⟩ := h
        refine w_X7_weak_144 C m144 x1 x2 x3 x4 x5 x7 x9 1 0 0 N_h L_h h (fun x1 x2 x3 x4 x5 x7 x9 x10 x12 N_h L_h h => ?_)
        · refine k_lload C dX7_weak_246 6 rfl 248 rfl ?_
          refine k_iload_n C dX7_weak_248 2 rfl rfl 249 rfl ?_
          refine k_iconst C dX7_weak_249 250 rfl ?_
          obtain ⟨hr250a, h⟩ := h
          obtain ⟨ht, hf⟩ := h
          refine k_icmp_ne C dX7_weak_250 ⟨hr250a, (by decide)⟩ 262 253 (by decide) rfl (fun hc250 => ?_) (fun hc250 => ?_)
          · have h := ht hc250; clear ht hf
            refine k_iload C dX7_weak_262 9 rfl 264 rfl ?_
            obtain ⟨hr264a, h⟩ := h
            obtain ⟨ht, hf⟩ := h
            refine k_if_ne C dX7_weak_264 hr264a 272 267 (by decide) rfl (fun hc264 => ?_) (fun hc264 => ?_)
            · have h := ht hc264; clear ht hf
              refine k_lconst (v := 0) C dX7_weak_272 (by decide) 273 rfl ?_
              refine k_ladd C dX7_weak_273 274 rfl ?_
              refine k_lstore C dX7_weak_274 (by decide) [(7, .long (lL (x7 + 0))), (0, .ref (qh 0)), (1, .int (iI x1)), (2, .int (iI x2)), (3, .int (iI x3)), (4, .int (iI x4)), (5, .long (lL x5)), (9, .int (iI x9)), (10, .long (lL x10)), (12, .int (iI x12))] rfl 276 rfl ?_
              refine k_iinc (j := 7) C dX7_weak_276 rfl (by decide) [(9, .int (iI (x9 + 1))), (7, .long (lL (x7 + 0))), (0, .ref (qh 0)), (1, .int (iI x1)), (2, .int (iI x2)), (3, .int (iI x3)), (4, .int (iI x4)), (5, .long (lL x5)), (10, .long (lL x10)), (12, .int (iI x12))] rfl 279 rfl ?_
              refine k_goto C dX7_weak_279 117 (by decide) ?_
              refine k_lv C [2, 3, 4, 5, 6, 7, 1, 0] [(0, .ref (qh 0)), (1, .int (iI x1)), (2, .int (iI x2)), (3, .int (iI x3)), (4, .int (iI x4)), (5, .long (lL x5)), (7, .long (lL (x7 + 0))), (9, .int (iI (x9 + 1)))] rfl ?_
              exact ih x1 x2 x3 x4 x5 (x7 + 0) (x9 + 1) N_h L_h h hK_282
            · have h := hf hc264; clear ht hf
              refine k_lload C dX7_weak_267 8 rfl 269 rfl ?_
              refine k_goto C dX7_weak_269 273 (by decide) ?_
              refine k_ladd C dX7_weak_273 274 rfl ?_
              refine k_lstore C dX7_weak_274 (by decide) [(7, .long (lL (x7 + x10))), (0, .ref (qh 0)), (1, .int (iI x1)), (2, .int (iI x2)), (3, .int (iI x3)), (4, .int (iI x4)), (5, .long (lL x5)), (9, .int (iI x9)), (10, .long (lL x10)), (12, .int (iI x12))] rfl 276 rfl ?_
              refine k_iinc (j := 7) C dX7_weak_276 rfl (by decide) [(9, .int (iI (x9 + 1))), (7, .long (lL (x7 + x10))), (0, .ref (qh 0)), (1, .int (iI x1)), (2, .int (iI x2)), (3, .int (iI x3)), (4, .int (iI x4)), (5, .long (lL x5)), (10, .long (lL x10)), (12, .int (iI x12))] rfl 279 rfl ?_
              refine k_goto C dX7_weak_279 117 (by decide) ?_
              refine k_lv C [2, 3, 4, 5, 6, 7, 1, 0] [(0, .ref (qh 0)), (1, .int (iI x1)), (2, .int (iI x2)), (3, .int (iI x3)), (4, .int (iI x4)), (5, .long (lL x5)), (7, .long (lL (x7 + x10))), (9, .int (iI (x9 + 1)))] rfl ?_
              exact ih x1 x2 x3 x4 x5 (x7 + x10) (x9 + 1) N_h L_h h hK_282
          · have h := hf hc250; clear ht hf
            refine k_lload C dX7_weak_253 8 rfl 255 rfl ?_
            refine k_iload C dX7_weak_255 9 rfl 257 rfl ?_
            obtain ⟨hr257a, h⟩ := h
            refine k_i2l C dX7_weak_257 hr257a 258 rfl ?_
            refine k_lmul C dX7_weak_258 259 rfl ?_
            refine k_goto C dX7_weak_259 273 (by decide) ?_
            refine k_ladd C dX7_weak_273 274 rfl ?_
            refine k_lstore C dX7_weak_274 (by decide) [(7, .long (lL (x7 + (x10 * x12)))), (0, .ref (qh 0)), (1, .int (iI x1)), (2, .int (iI x2)), (3, .int (iI x3)), (4, .int (iI x4)), (5, .long (lL x5)), (9, .int (iI x9)), (10, .long (lL x10)), (12, .int (iI x12))] rfl 276 rfl ?_
            refine k_iinc (j := 7) C dX7_weak_276 rfl (by decide) [(9, .int (iI (x9 + 1))), (7, .long (lL (x7 + (x10 * x12)))), (0, .ref (qh 0)), (1, .int (iI x1)), (2, .int (iI x2)), (3, .int (iI x3)), (4, .int (iI x4)), (5, .long (lL x5)), (10, .long (lL x10)), (12, .int (iI x12))] rfl 279 rfl ?_
            refine k_goto C dX7_weak_279 117 (by decide) ?_
            refine k_lv C [2, 3, 4, 5, 6, 7, 1, 0] [(0, .ref (qh 0)), (1, .int (iI x1)), (2, .int (iI x2)), (3, .int (iI x3)), (4, .int (iI x4)), (5, .long (lL x5)), (7, .long (lL (x7 + (x10 * x12)))), (9, .int (iI (x9 + 1)))] rfl ?_
            exact ih x1 x2 x3 x4 x5 (x7 + (x10 * x12)) (x9 + 1) N_h L_h h hK_282
set_option maxHeartbeats 4000000 in
set_option maxRecDepth 20000 in
theorem c_X7_weak {l : Launch} {D : va_G} {cI cJ cZ : ClassId} (qh : Nat → Nat) (B_h : gMB) (P_h : gMP) (N_h : gMN) (L_h : gML) (E_h : gME) (V_h : gMV) (G_h : gMG) (D_h : gMD) (O_h : gMO) (Z_h : gMZ) (R_h : gMR) (I_h : gMI) (x1 : Int) (x2 : Int) (x3 : Int) (Q : Int → gMN → gML → Prop) (h : wp_X7_weak B_h P_h N_h L_h x1 x2 x3 Q) : KM l D (kT cI cJ cZ) 0 0 yX7_weak wsX7_weak rm_X7_weak [.ref (qh 0), .int (iI x1), .int (iI x2), .int (iI x3)] ((wdM cI cJ cZ qh B_h P_h N_h L_h E_h V_h G_h D_h O_h Z_h R_h I_h)) (rp_X7_weak cI cJ cZ qh B_h P_h E_h V_h G_h D_h O_h Z_h R_h I_h Q) := by
  refine KM_intro (lv := [(0, .ref (qh 0)), (1, .int (iI x1)), (2, .int (iI x2)), (3, .int (iI x3))]) false rfl (by decide) (Nat.le_of_ble_eq_true rfl) rfl (fun h => absurd h (by decide)) (fun v ws hq => by obtain ⟨r, N_h, L_h, rfl, rfl, _⟩ := hq; exact Or.inr (Or.inr (Or.inr ⟨rfl, _, rfl⟩))) (fun A K C => ?_)
  refine k_iload_n C dX7_weak_0 1 rfl rfl 1 rfl ?_
  refine k_iconst C dX7_weak_1 2 rfl ?_
  refine k_bipush C dX7_weak_2 (by decide) 4 rfl ?_
  have hM := c_X7_in (l := l) (D := D) (cI := cI) (cJ := cJ) (cZ := cZ) x1 0 10 _ h
  refine k_callS C dX7_weak_4 hM gX7_weak_X7_in rfl sg_X7_in rfl (Nat.le_of_ble_eq_true rfl) ⟨⟨rfl, rfl⟩, by decide, by decide⟩ ⟨Nat.le_refl 0, Nat.le_refl 0⟩ [] [0, 1, 2, 3, 4, 5, 6, 7, 8, 9, 10, 11, 12, 13, 14, 15, 16] rfl rfl rfl rfl (by decide) 0 0 ⟨rfl, rfl⟩ 7 rfl (fun v w1 hq4 => ?_)
  obtain ⟨r4, rfl, rfl, hb4, h⟩ := hq4
  refine k_perm C [0, 1, 2, 3, 4, 5, 6, 7, 8, 9, 10, 11, 12, 13, 14, 15, 16] [.int (iI r4)] ((wdM cI cJ cZ qh B_h P_h N_h L_h E_h V_h G_h D_h O_h Z_h R_h I_h)) rfl rfl rfl ?_
  obtain ⟨ht, hf⟩ := h
  refine k_if_eq C dX7_weak_7 (by rcases hb4 with rfl | rfl <;> decide) 28 10 (by decide) rfl (fun hc7 => ?_) (fun hc7 => ?_)
  · have h := ht hc7; clear ht hf
    refine k_ldc2 (v := (-1000000000000000002)) C dX7_weak_28 (List.mem_of_getElem? (i := 1) rfl) (by decide) 31 rfl ?_
    exact k_lret C dX7_weak_31 ⟨(-1000000000000000002), N_h, L_h, rfl, rfl, h⟩
  · have h := hf hc7; clear ht hf
    refine k_iload_n C dX7_weak_10 2 rfl rfl 11 rfl ?_
    refine k_iconst C dX7_weak_11 12 rfl ?_
    refine k_iconst C dX7_weak_12 13 rfl ?_
    have hM := c_X7_in (l := l) (D := D) (cI := cI) (cJ := cJ) (cZ := cZ) x2 0 1 _ h
    refine k_callS C dX7_weak_13 hM gX7_weak_X7_in rfl sg_X7_in rfl (Nat.le_of_ble_eq_true rfl) ⟨⟨rfl, rfl⟩, by decide, by decide⟩ ⟨Nat.le_refl 0, Nat.le_refl 0⟩ [] [0, 1, 2, 3, 4, 5, 6, 7, 8, 9, 10, 11, 12, 13, 14, 15, 16] rfl rfl rfl rfl (by decide) 0 0 ⟨rfl, rfl⟩ 16 rfl (fun v w1 hq13 => ?_)
    obtain ⟨r13, rfl, rfl, hb13, h⟩ := hq13
    refine k_perm C [0, 1, 2, 3, 4, 5, 6, 7, 8, 9, 10, 11, 12, 13, 14, 15, 16] [.int (iI r13)] ((wdM cI cJ cZ qh B_h P_h N_h L_h E_h V_h G_h D_h O_h Z_h R_h I_h)) rfl rfl rfl ?_
    obtain ⟨ht, hf⟩ := h
    refine k_if_eq C dX7_weak_16 (by rcases hb13 with rfl | rfl <;> decide) 28 19 (by decide) rfl (fun hc16 => ?_) (fun hc16 => ?_)
    · have h := ht hc16; clear ht hf
      refine k_ldc2 (v := (-1000000000000000002)) C dX7_weak_28 (List.mem_of_getElem? (i := 1) rfl) (by decide) 31 rfl ?_
      exact k_lret C dX7_weak_31 ⟨(-1000000000000000002), N_h, L_h, rfl, rfl, h⟩
    · have h := hf hc16; clear ht hf
      refine k_iload_n C dX7_weak_19 3 rfl rfl 20 rfl ?_
      refine k_iconst C dX7_weak_20 21 rfl ?_
      refine k_iconst C dX7_weak_21 22 rfl ?_
      have hM := c_X7_in (l := l) (D := D) (cI := cI) (cJ := cJ) (cZ := cZ) x3 0 1 _ h
      refine k_callS C dX7_weak_22 hM gX7_weak_X7_in rfl sg_X7_in rfl (Nat.le_of_ble_eq_true rfl) ⟨⟨rfl, rfl⟩, by decide, by decide⟩ ⟨Nat.le_refl 0, Nat.le_refl 0⟩ [] [0, 1, 2, 3, 4, 5, 6, 7, 8, 9, 10, 11, 12, 13, 14, 15, 16] rfl rfl rfl rfl (by decide) 0 0 ⟨rfl, rfl⟩ 25 rfl (fun v w1 hq22 => ?_)
      obtain ⟨r22, rfl, rfl, hb22, h⟩ := hq22
      refine k_perm C [0, 1, 2, 3, 4, 5, 6, 7, 8, 9, 10, 11, 12, 13, 14, 15, 16] [.int (iI r22)] ((wdM cI cJ cZ qh B_h P_h N_h L_h E_h V_h G_h D_h O_h Z_h R_h I_h)) rfl rfl rfl ?_
      obtain ⟨ht, hf⟩ := h
      refine k_if_ne C dX7_weak_25 (by rcases hb22 with rfl | rfl <;> decide) 32 28 (by decide) rfl (fun hc25 => ?_) (fun hc25 => ?_)
      · have h := ht hc25; clear ht hf
        refine k_aload_n C dX7_weak_32 0 rfl rfl 33 rfl ?_
        have hM := c_X7_asNow (l := l) (D := D) (cI := cI) (cJ := cJ) (cZ := cZ) qh B_h P_h N_h L_h E_h V_h G_h D_h O_h Z_h R_h I_h _ h
        refine k_callV C dX7_weak_33 hM gX7_weak_X7_asNow rfl sg_X7_asNow 7 rfl rfl rfl (Nat.le_of_ble_eq_true rfl) ⟨⟨rfl, rfl⟩, by decide, by decide⟩ ⟨Nat.le_refl 0, Nat.le_refl 0⟩ [0, 1, 2, 3, 4, 5, 6, 7, 8, 9, 10, 11, 12, 13, 14, 15, 16] [] rfl rfl rfl rfl (by decide) 0 0 ⟨rfl, rfl⟩ 36 rfl (fun v w1 hq33 => ?_)
        obtain ⟨N_h_33, rfl, rfl, h⟩ := hq33
        refine k_perm C [0, 1, 2, 3, 4, 5, 6, 7, 8, 9, 10, 11, 12, 13, 14, 15, 16] [] ((wdM cI cJ cZ qh B_h P_h N_h_33 L_h E_h V_h G_h D_h O_h Z_h R_h I_h)) rfl rfl rfl ?_
        refine k_aload_n C dX7_weak_36 0 rfl rfl 37 rfl ?_
        have hM := c_X7_layLoads (l := l) (D := D) (cI := cI) (cJ := cJ) (cZ := cZ) qh B_h P_h N_h_33 L_h E_h V_h G_h D_h O_h Z_h R_h I_h _ h
        refine k_callV C dX7_weak_37 hM gX7_weak_X7_layLoads rfl sg_X7_layLoads 7 rfl rfl rfl (Nat.le_of_ble_eq_true rfl) ⟨⟨rfl, rfl⟩, by decide, by decide⟩ ⟨Nat.le_refl 0, Nat.le_refl 0⟩ [0, 1, 2, 3, 4, 5, 6, 7, 8, 9, 10, 11, 12, 13, 14, 15, 16] [] rfl rfl rfl rfl (by decide) 0 0 ⟨rfl, rfl⟩ 40 rfl (fun v w1 hq37 => ?_)
        obtain ⟨L_h_37, rfl, rfl, h⟩ := hq37
        refine k_perm C [0, 1, 2, 3, 4, 5, 6, 7, 8, 9, 10, 11, 12, 13, 14, 15, 16] [] ((wdM cI cJ cZ qh B_h P_h N_h_33 L_h_37 E_h V_h G_h D_h O_h Z_h R_h I_h)) rfl rfl rfl ?_
        refine k_iconst C dX7_weak_40 41 rfl ?_
        refine k_istore C dX7_weak_41 (by decide) [(4, .int (iI 0)), (0, .ref (qh 0)), (1, .int (iI x1)), (2, .int (iI x2)), (3, .int (iI x3))] rfl 43 rfl ?_
        refine k_iconst C dX7_weak_43 44 rfl ?_
        refine k_istore C dX7_weak_44 (by decide) [(5, .int (iI 0)), (4, .int (iI 0)), (0, .ref (qh 0)), (1, .int (iI x1)), (2, .int (iI x2)), (3, .int (iI x3))] rfl 46 rfl ?_
        refine k_lv C [2, 3, 4, 5, 1, 0] [(0, .ref (qh 0)), (1, .int (iI x1)), (2, .int (iI x2)), (3, .int (iI x3)), (4, .int (iI 0)), (5, .int (iI 0))] rfl ?_
        obtain ⟨m46, h⟩ := h
        refine w_X7_weak_46 C m46 x1 x2 x3 0 0 N_h_33 L_h_37 h (fun x1 x2 x3 x4 N_h L_h h => ?_)
        · refine k_lconst (v := 1) C dX7_weak_81 (by decide) 82 rfl ?_
          refine k_lstore C dX7_weak_82 (by decide) [(5, .long (lL 1)), (0, .ref (qh 0)), (1, .int (iI x1)), (2, .int (iI x2)), (3, .int (iI x3)), (4, .int (iI x4))] rfl 84 rfl ?_
          refine k_iconst C dX7_weak_84 85 rfl ?_
          refine k_istore C dX7_weak_85 (by decide) [(7, .int (iI 0)), (5, .long (lL 1)), (0, .ref (qh 0)), (1, .int (iI x1)), (2, .int (iI x2)), (3, .int (iI x3)), (4, .int (iI x4))] rfl 87 rfl ?_
          refine k_lv C [2, 3, 4, 5, 6, 1, 0] [(0, .ref (qh 0)), (1, .int (iI x1)), (2, .int (iI x2)), (3, .int (iI x3)), (4, .int (iI x4)), (5, .long (lL 1)), (7, .int (iI 0))] rfl ?_
          obtain ⟨m87, h⟩ := h
          refine w_X7_weak_87 C m87 x1 x2 x3 x4 1 0 N_h L_h h (fun x1 x2 x3 x4 x5 N_h L_h h => ?_)
          · refine k_lconst (v := 0) C dX7_weak_111 (by decide) 112 rfl ?_
            refine k_lstore C dX7_weak_112 (by decide) [(7, .long (lL 0)), (0, .ref (qh 0)), (1, .int (iI x1)), (2, .int (iI x2)), (3, .int (iI x3)), (4, .int (iI x4)), (5, .long (lL x5))] rfl 114 rfl ?_
            refine k_iconst C dX7_weak_114 115 rfl ?_
            refine k_istore C dX7_weak_115 (by decide) [(9, .int (iI 0)), (7, .long (lL 0)), (0, .ref (qh 0)), (1, .int (iI x1)), (2, .int (iI x2)), (3, .int (iI x3)), (4, .int (iI x4)), (5, .long (lL x5))] rfl 117 rfl ?_
            refine k_lv C [2, 3, 4, 5, 6, 7, 1, 0] [(0, .ref (qh 0)), (1, .int (iI x1)), (2, .int (iI x2)), (3, .int (iI x3)), (4, .int (iI x4)), (5, .long (lL x5)), (7, .long (lL 0)), (9, .int (iI 0))] rfl ?_
            obtain ⟨m117, h⟩ := h
            refine w_X7_weak_117 C m117 x1 x2 x3 x4 x5 0 0 N_h L_h h (fun x3 x5 x7 N_h L_h h => ?_)
            · refine k_lload C dX7_weak_282 2 rfl 284 rfl ?_
              refine k_lload C dX7_weak_284 1 rfl 286 rfl ?_
              refine k_iload_n C dX7_weak_286 0 rfl rfl 287 rfl ?_
              have hM := c_X7_part (l := l) (D := D) (cI := cI) (cJ := cJ) (cZ := cZ) x7 x5 x3 _ h
              refine k_callS C dX7_weak_287 hM gX7_weak_X7_part rfl sg_X7_part rfl (Nat.le_of_ble_eq_true rfl) ⟨⟨rfl, rfl⟩, by decide, by decide⟩ ⟨Nat.le_refl 0, Nat.le_refl 0⟩ [] [0, 1, 2, 3, 4, 5, 6, 7, 8, 9, 10, 11, 12, 13, 14, 15, 16] rfl rfl rfl rfl (by decide) 0 0 ⟨rfl, rfl⟩ 290 rfl (fun v w1 hq287 => ?_)
              obtain ⟨r287, rfl, rfl, h⟩ := hq287
              refine k_perm C [0, 1, 2, 3, 4, 5, 6, 7, 8, 9, 10, 11, 12, 13, 14, 15, 16] [.long (lL r287)] ((wdM cI cJ cZ qh B_h P_h N_h L_h E_h V_h G_h D_h O_h Z_h R_h I_h)) rfl rfl rfl ?_
              exact k_lret C dX7_weak_290 ⟨r287, N_h, L_h, rfl, rfl, h⟩
      · have h := hf hc25; clear ht hf
        refine k_ldc2 (v := (-1000000000000000002)) C dX7_weak_28 (List.mem_of_getElem? (i := 1) rfl) (by decide) 31 rfl ?_
        exact k_lret C dX7_weak_31 ⟨(-1000000000000000002), N_h, L_h, rfl, rfl, h⟩

/-! X7_year -/
abbrev rm_X7_year : Room := { frames := 6, cells := 0, slots := 0, locals := 141 }
theorem sg_X7_year : yX7_year.cls ≠ "java/lang/invoke/MethodHandle" ∧ yX7_year.cls ≠ "java/lang/invoke/VarHandle" ∧ (parseMethodDescriptor yX7_year.desc).map (fun d => d.parameters.length) = some 3 := by decide +kernel
theorem hin_X7_year_7 : ∀ w ∈ wsX70, w ∈ wsX7_year := fun _ h => List.mem_cons_of_mem _ (List.mem_append_right _ h)
def rp_X7_year (cI cJ cZ : ClassId) (qh : Nat → Nat) (B_h : gMB) (P_h : gMP) (E_h : gME) (V_h : gMV) (G_h : gMG) (D_h : gMD) (O_h : gMO) (Z_h : gMZ) (R_h : gMR) (I_h : gMI) (Q : Int → gMN → gML → Prop) : Option Value → va_W → Prop := fun v w1 => ∃ (r : Int) (N_h : gMN) (L_h : gML), v = some (.int (iI r)) ∧ w1 = (wdM cI cJ cZ qh B_h P_h N_h L_h E_h V_h G_h D_h O_h Z_h R_h I_h) ∧ Q r N_h L_h
def wp_X7_year_121 (B_h : gMB) (K_52 : Int → Int → Int → Int → Int → Int → Int → gMN → gML → Prop)  (Q : Int → gMN → gML → Prop) (x2 : Int) (x3 : Int) (x4 : Int) (x5 : Int) (x6 : Int) (x7 : Int) (x8 : Int) (N_h : gMN) (L_h : gML) : Prop :=
    wp_X7_highest B_h N_h (fun (r122 : Int) => rI r122 ∧ rI x7 ∧ ((r122 ≤ x7 → K_52 x2 x3 x4 x5 x6 x7 (x8 + 1) N_h L_h) ∧ (¬ (r122 ≤ x7) → wp_X7_highest B_h N_h (fun (r131 : Int) => K_52 x2 x3 x4 x5 x6 r131 (x8 + 1) N_h L_h))))
def wp_X7_year_52 (B_h : gMB) (K_147 : Int → Int → Int → Int → gMN → gML → Prop)  (Q : Int → gMN → gML → Prop) : Nat → Int → Int → Int → Int → Int → Int → Int → gMN → gML → Prop
  | 0, _, _, _, _, _, _, _, _, _ => False
  | n52 + 1, x2, x3, x4, x5, x6, x7, x8, N_h, L_h =>
    rI x8 ∧ rI x2 ∧ ((x2 ≤ x8 → K_147 x3 x5 x6 x7 N_h L_h) ∧ (¬ (x2 ≤ x8) → rI ((75 * x4) + 74) ∧ rI (((75 * x4) + 74).tmod 65537) ∧ ¬ B_h.1 = 0 ∧ rI ((((75 * x4) + 74).tmod 65537).tdiv 10) ∧ rI B_h.1 ∧ wp_X7_put B_h N_h L_h ((((75 * x4) + 74).tmod 65537).tmod 10) (((((75 * x4) + 74).tmod 65537).tdiv 10).tmod B_h.1) (fun (r91 : Int) (N_h_91 : gMN) (L_h_91 : gML) => rI r91 ∧ ((¬ r91 = 0 → wp_X7_whyNotTake B_h N_h_91 ((((75 * x4) + 74).tmod 65537).tmod 10) (fun (r106 : Int) => rI r106 ∧ ((¬ r106 = 0 → wp_X7_year_121 B_h (fun (x2 : Int) (x3 : Int) (x4 : Int) (x5 : Int) (x6 : Int) (x7 : Int) (x8 : Int) (N_h : gMN) (L_h : gML) => wp_X7_year_52 B_h K_147 Q n52 x2 x3 x4 x5 x6 x7 x8 N_h L_h) Q x2 x3 (((75 * x4) + 74).tmod 65537) x5 x6 x7 x8 N_h_91 L_h_91) ∧ (¬ (¬ r106 = 0) → wp_X7_take N_h_91 ((((75 * x4) + 74).tmod 65537).tmod 10) (fun (N_h_115 : gMN) => wp_X7_year_121 B_h (fun (x2 : Int) (x3 : Int) (x4 : Int) (x5 : Int) (x6 : Int) (x7 : Int) (x8 : Int) (N_h : gMN) (L_h : gML) => wp_X7_year_52 B_h K_147 Q n52 x2 x3 x4 x5 x6 x7 x8 N_h L_h) Q x2 x3 (((75 * x4) + 74).tmod 65537) x5 (x6 + 1) x7 x8 N_h_115 L_h_91))))) ∧ (¬ (¬ r91 = 0) → wp_X7_year_121 B_h (fun (x2 : Int) (x3 : Int) (x4 : Int) (x5 : Int) (x6 : Int) (x7 : Int) (x8 : Int) (N_h : gMN) (L_h : gML) => wp_X7_year_52 B_h K_147 Q n52 x2 x3 x4 x5 x6 x7 x8 N_h L_h) Q x2 x3 (((75 * x4) + 74).tmod 65537) (x5 + 1) x6 x7 x8 N_h_91 L_h_91)))))
def wp_X7_year (B_h : gMB) (P_h : gMP) (N_h : gMN) (L_h : gML) (x1 : Int) (x2 : Int) (x3 : Int) (Q : Int → gMN → gML → Prop) : Prop :=
    wp_X7_in x1 0 9999 (fun (r5 : Int) => ((r5 = 0 → Q (-2) N_h L_h) ∧ (¬ (r5 = 0) → wp_X7_in x2 1 99 (fun (r15 : Int) => ((r15 = 0 → Q (-2) N_h L_h) ∧ (¬ (r15 = 0) → wp_X7_in x3 0 2 (fun (r24 : Int) => ((¬ r24 = 0 → wp_X7_asNow P_h N_h (fun (N_h_34 : gMN) => ∃ m52, wp_X7_year_52 B_h (fun (x3 : Int) (x5 : Int) (x6 : Int) (x7 : Int) (N_h : gMN) (L_h : gML) => rI x3 ∧ ((¬ x3 = 0 → ((¬ x3 = 1 → Q x7 N_h L_h) ∧ (¬ (¬ x3 = 1) → Q x6 N_h L_h))) ∧ (¬ (¬ x3 = 0) → Q x5 N_h L_h))) Q m52 x2 x3 x1 0 0 0 0 N_h_34 L_h)) ∧ (¬ (¬ r24 = 0) → Q (-2) N_h L_h)))))))))
set_option maxHeartbeats 4000000 in
set_option maxRecDepth 20000 in
theorem w_X7_year_121 {l : Launch} {D : va_G} {cI cJ cZ : ClassId} {A : Nat → Prop} {K : KT} {qh : Nat → Nat} {B_h : gMB} {P_h : gMP} {E_h : gME} {V_h : gMV} {G_h : gMG} {D_h : gMD} {O_h : gMO} {Z_h : gMZ} {R_h : gMR} {I_h : gMI} {Q : Int → gMN → gML → Prop} {K_52 : Int → Int → Int → Int → Int → Int → Int → gMN → gML → Prop} (C : KC cX7_year yX7_year.cls wsX7_year rm_X7_year 10 D (kT cI cJ cZ) A l false (rp_X7_year cI cJ cZ qh B_h P_h E_h V_h G_h D_h O_h Z_h R_h I_h Q) 0 0 K) : ∀ (x2 : Int) (x3 : Int) (x4 : Int) (x5 : Int) (x6 : Int) (x7 : Int) (x8 : Int) (N_h : gMN) (L_h : gML), wp_X7_year_121 B_h K_52 Q x2 x3 x4 x5 x6 x7 x8 N_h L_h → (∀ (x2 : Int) (x3 : Int) (x4 : Int) (x5 : Int) (x6 : Int) (x7 : Int) (x8 : Int) (N_h : gMN) (L_h : gML), K_52 x2 x3 x4 x5 x6 x7 x8 N_h L_h → K 0 0 52 [(0, .ref (qh 0)), (2, .int (iI x2)), (3, .int (iI x3)), (4, .int (iI x4)), (5, .int (iI x5)), (6, .int (iI x6)), (7, .int (iI x7)), (8, .int (iI x8))] [] ((wdM cI cJ cZ qh B_h P_h N_h L_h E_h V_h G_h D_h O_h Z_h R_h I_h))) → K 0 0 121 [(0, .ref (qh 0)), (2, .int (iI x2)), (3, .int (iI x3)), (4, .int (iI x4)), (5, .int (iI x5)), (6, .int (iI x6)), (7, .int (iI x7)), (8, .int (iI x8))] [] ((wdM cI cJ cZ qh B_h P_h N_h L_h E_h V_h G_h D_h O_h Z_h R_h I_h)) := by
  intro x2 x3 x4 x5 x6 x7 x8 N_h L_h h hK_52
  refine k_aload_n C dX7_year_121 0 rfl rfl 122 rfl ?_
  have hM := c_X7_highest (l := l) (D := D) (cI := cI) (cJ := cJ) (cZ := cZ) qh B_h P_h N_h L_h E_h V_h G_h D_h O_h Z_h R_h I_h _ h
  refine k_callV C dX7_year_122 hM gX7_year_X7_highest rfl sg_X7_highest 7 rfl rfl rfl (Nat.le_of_ble_eq_true rfl) ⟨⟨rfl, rfl⟩, by decide, by decide⟩ ⟨Nat.le_refl 0, Nat.le_refl 0⟩ [0, 1, 2, 3, 4, 5, 6, 7, 8, 9, 10, 11, 12, 13, 14, 15, 16] [] rfl rfl rfl rfl (by decide) 0 0 ⟨rfl, rfl⟩ 125 rfl (fun v w1 hq122 => ?_)
  obtain ⟨r122, rfl, rfl, h⟩ := hq122
  refine k_perm C [0, 1, 2, 3, 4, 5, 6, 7, 8, 9, 10, 11, 12, 13, 14, 15, 16] [.int (iI r122)] ((wdM cI cJ cZ qh B_h P_h N_h L_h E_h V_h G_h D_h O_h Z_h R_h I_h)) rfl rfl rfl ?_
  refine k_iload C dX7_year_125 6 rfl 127 rfl ?_
  obtain ⟨hr127a, hr127b, h⟩ := h
  obtain ⟨ht, hf⟩ := h
  refine k_icmp_le C dX7_year_127 ⟨hr127a, hr127b⟩ 137 130 (by decide) rfl (fun hc127 => ?_) (fun hc127 => ?_)
  · have h := ht hc127; clear ht hf
    refine k_iload C dX7_year_137 6 rfl 139 rfl ?_
    refine k_istore C dX7_year_139 (by decide) [(7, .int (iI x7)), (0, .ref (qh 0)), (2, .int (iI x2)), (3, .int (iI x3)), (4, .int (iI x4)), (5, .int (iI x5)), (6, .int (iI x6)), (8, .int (iI x8))] rfl 141 rfl ?_
    refine k_iinc (j := 7) C dX7_year_141 rfl (by decide) [(8, .int (iI (x8 + 1))), (7, .int (iI x7)), (0, .ref (qh 0)), (2, .int (iI x2)), (3, .int (iI x3)), (4, .int (iI x4)), (5, .int (iI x5)), (6, .int (iI x6))] rfl 144 rfl ?_
    refine k_goto C dX7_year_144 52 (by decide) ?_
    refine k_lv C [2, 3, 4, 5, 6, 7, 1, 0] [(0, .ref (qh 0)), (2, .int (iI x2)), (3, .int (iI x3)), (4, .int (iI x4)), (5, .int (iI x5)), (6, .int (iI x6)), (7, .int (iI x7)), (8, .int (iI (x8 + 1)))] rfl ?_
    exact hK_52 x2 x3 x4 x5 x6 x7 (x8 + 1) N_h L_h h
  · have h := hf hc127; clear ht hf
    refine k_aload_n C dX7_year_130 0 rfl rfl 131 rfl ?_
    have hM := c_X7_highest (l := l) (D := D) (cI := cI) (cJ := cJ) (cZ := cZ) qh B_h P_h N_h L_h E_h V_h G_h D_h O_h Z_h R_h I_h _ h
    refine k_callV C dX7_year_131 hM gX7_year_X7_highest rfl sg_X7_highest 7 rfl rfl rfl (Nat.le_of_ble_eq_true rfl) ⟨⟨rfl, rfl⟩, by decide, by decide⟩ ⟨Nat.le_refl 0, Nat.le_refl 0⟩ [0, 1, 2, 3, 4, 5, 6, 7, 8, 9, 10, 11, 12, 13, 14, 15, 16] [] rfl rfl rfl rfl (by decide) 0 0 ⟨rfl, rfl⟩ 134 rfl (fun v w1 hq131 => ?_)
    obtain ⟨r131, rfl, rfl, h⟩ := hq131
    refine k_perm C [0, 1, 2, 3, 4, 5, 6, 7, 8, 9, 10, 11, 12, 13, 14, 15, 16] [.int (iI r131)] ((wdM cI cJ cZ qh B_h P_h N_h L_h E_h V_h G_h D_h O_h Z_h R_h I_h)) rfl rfl rfl ?_
    refine k_goto C dX7_year_134 139 (by decide) ?_
    refine k_istore C dX7_year_139 (by decide) [(7, .int (iI r131)), (0, .ref (qh 0)), (2, .int (iI x2)), (3, .int (iI x3)), (4, .int (iI x4)), (5, .int (iI x5)), (6, .int (iI x6)), (8, .int (iI x8))] rfl 141 rfl ?_
    refine k_iinc (j := 7) C dX7_year_141 rfl (by decide) [(8, .int (iI (x8 + 1))), (7, .int (iI r131)), (0, .ref (qh 0)), (2, .int (iI x2)), (3, .int (iI x3)), (4, .int (iI x4)), (5, .int (iI x5)), (6, .int (iI x6))] rfl 144 rfl ?_
    refine k_goto C dX7_year_144 52 (by decide) ?_
    refine k_lv C [2, 3, 4, 5, 6, 7, 1, 0] [(0, .ref (qh 0)), (2, .int (iI x2)), (3, .int (iI x3)), (4, .int (iI x4)), (5, .int (iI x5)), (6, .int (iI x6)), (7, .int (iI r131)), (8, .int (iI (x8 + 1)))] rfl ?_
    exact hK_52 x2 x3 x4 x5 x6 r131 (x8 + 1) N_h L_h h
set_option maxHeartbeats 4000000 in
set_option maxRecDepth 20000 in
theorem w_X7_year_52 {l : Launch} {D : va_G} {cI cJ cZ : ClassId} {A : Nat → Prop} {K : KT} {qh : Nat → Nat} {B_h : gMB} {P_h : gMP} {E_h : gME} {V_h : gMV} {G_h : gMG} {D_h : gMD} {O_h : gMO} {Z_h : gMZ} {R_h : gMR} {I_h : gMI} {Q : Int → gMN → gML → Prop} {K_147 : Int → Int → Int → Int → gMN → gML → Prop} (C : KC cX7_year yX7_year.cls wsX7_year rm_X7_year 10 D (kT cI cJ cZ) A l false (rp_X7_year cI cJ cZ qh B_h P_h E_h V_h G_h D_h O_h Z_h R_h I_h Q) 0 0 K) : ∀ (n : Nat) (x2 : Int) (x3 : Int) (x4 : Int) (x5 : Int) (x6 : Int) (x7 : Int) (x8 : Int) (N_h : gMN) (L_h : gML), wp_X7_year_52 B_h K_147 Q n x2 x3 x4 x5 x6 x7 x8 N_h L_h → (∀ (x3 : Int) (x5 : Int) (x6 : Int) (x7 : Int) (N_h : gMN) (L_h : gML), K_147 x3 x5 x6 x7 N_h L_h → K 0 0 147 [(3, .int (iI x3)), (5, .int (iI x5)), (6, .int (iI x6)), (7, .int (iI x7))] [] ((wdM cI cJ cZ qh B_h P_h N_h L_h E_h V_h G_h D_h O_h Z_h R_h I_h))) → K 0 0 52 [(0, .ref (qh 0)), (2, .int (iI x2)), (3, .int (iI x3)), (4, .int (iI x4)), (5, .int (iI x5)), (6, .int (iI x6)), (7, .int (iI x7)), (8, .int (iI x8))] [] ((wdM cI cJ cZ qh B_h P_h N_h L_h E_h V_h G_h D_h O_h Z_h R_h I_h)) := by
  intro n
  induction n with
  | zero => intro x2 x3 x4 x5 x6 x7 x8 N_h L_h h; exact h.elim
  | succ n ih =>
    intro x2 x3 x4 x5 x6 x7 x8 N_h L_h h hK_147
    refine k_iload C dX7_year_52 7 rfl 54 rfl ?_
    refine k_iload_n C dX7_year_54 1 rfl rfl 55 rfl ?_
    obtain ⟨hr55a, hr55b, h⟩ := h
    obtain ⟨ht, hf⟩ := h
    refine k_icmp_ge C dX7_year_55 ⟨hr55a, hr55b⟩ 147 58 (by decide) rfl (fun hc55 => ?_) (fun hc55 => ?_)
    · have h := ht hc55; clear ht hf
      refine k_lv C [2, 4, 5, 6] [(3, .int (iI x3)), (5, .int (iI x5)), (6, .int (iI x6)), (7, .int (iI x7))] rfl ?_
      exact hK_147 x3 x5 x6 x7 N_h L_h h
    · have h := hf hc55; clear ht hf
      refine k_bipush C dX7_year_58 (by decide) 60 rfl ?_
      refine k_iload C dX7_year_60 3 rfl 62 rfl ?_
      refine k_imul C dX7_year_62 63 rfl ?_
      refine k_bipush C dX7_year_63 (by decide) 65 rfl ?_
      refine k_iadd C dX7_year_65 66 rfl ?_
      refine k_ldc (v := 65537) C dX7_year_66 (List.mem_of_getElem? (i := 1) rfl) (by decide) 68 rfl ?_
      obtain ⟨hr68a, h⟩ := h
      refine k_irem C dX7_year_68 ⟨hr68a, (by decide), (by decide)⟩ 69 rfl ?_
      refine k_istore C dX7_year_69 (by decide) [(4, .int (iI (((75 * x4) + 74).tmod 65537))), (0, .ref (qh 0)), (2, .int (iI x2)), (3, .int (iI x3)), (5, .int (iI x5)), (6, .int (iI x6)), (7, .int (iI x7)), (8, .int (iI x8))] rfl 71 rfl ?_
      refine k_iload C dX7_year_71 0 rfl 73 rfl ?_
      refine k_bipush C dX7_year_73 (by decide) 75 rfl ?_
      obtain ⟨hr75a, h⟩ := h
      refine k_irem C dX7_year_75 ⟨hr75a, (by decide), (by decide)⟩ 76 rfl ?_
      refine k_istore C dX7_year_76 (by decide) [(9, .int (iI ((((75 * x4) + 74).tmod 65537).tmod 10))), (4, .int (iI (((75 * x4) + 74).tmod 65537))), (0, .ref (qh 0)), (2, .int (iI x2)), (3, .int (iI x3)), (5, .int (iI x5)), (6, .int (iI x6)), (7, .int (iI x7)), (8, .int (iI x8))] rfl 78 rfl ?_
      refine k_aload_n C dX7_year_78 2 rfl rfl 79 rfl ?_
      refine k_iload C dX7_year_79 0 rfl 81 rfl ?_
      refine k_iload C dX7_year_81 1 rfl 83 rfl ?_
      refine k_bipush C dX7_year_83 (by decide) 85 rfl ?_
      refine k_idiv C dX7_year_85 ⟨hr75a, (by decide), (by decide)⟩ 86 rfl ?_
      refine k_aload_n C dX7_year_86 2 rfl rfl 87 rfl ?_
      refine k_get C dX7_year_87 0 rfl (ci := 7) rfl hin_X7_year_7 0 (by decide) (List.mem_of_getElem? (i := 2) rfl) rfl 90 rfl ?_
      obtain ⟨hz90, h⟩ := h
      obtain ⟨hr90a, hr90b, h⟩ := h
      refine k_irem C dX7_year_90 ⟨hr90a, hr90b, hz90⟩ 91 rfl ?_
      have hM := c_X7_put (l := l) (D := D) (cI := cI) (cJ := cJ) (cZ := cZ) qh B_h P_h N_h L_h E_h V_h G_h D_h O_h Z_h R_h I_h ((((75 * x4) + 74).tmod 65537).tmod 10) (((((75 * x4) + 74).tmod 65537).tdiv 10).tmod B_h.1) _ h
      refine k_callV C dX7_year_91 hM gX7_year_X7_put rfl sg_X7_put 7 rfl rfl rfl (Nat.le_of_ble_eq_true rfl) ⟨⟨rfl, rfl⟩, by decide, by decide⟩ ⟨Nat.le_refl 0, Nat.le_refl 0⟩ [0, 1, 2, 3, 4, 5, 6, 7, 8, 9, 10, 11, 12, 13, 14, 15, 16] [] rfl rfl rfl rfl (by decide) 0 0 ⟨rfl, rfl⟩ 94 rfl (fun v w1 hq91 => ?_)
      obtain ⟨r91, N_h_91, L_h_91, rfl, rfl, h⟩ := hq91
      refine k_perm C [0, 1, 2, 3, 4, 5, 6, 7, 8, 9, 10, 11, 12, 13, 14, 15, 16] [.int (iI r91)] ((wdM cI cJ cZ qh B_h P_h N_h_91 L_h_91 E_h V_h G_h D_h O_h Z_h R_h I_h)) rfl rfl rfl ?_
      obtain ⟨hr94a, h⟩ := h
      obtain ⟨ht, hf⟩ := h
      refine k_if_ne C dX7_year_94 hr94a 103 97 (by decide) rfl (fun hc94 => ?_) (fun hc94 => ?_)
      · have h := ht hc94; clear ht hf
        refine k_aload_n C dX7_year_103 2 rfl rfl 104 rfl ?_
        refine k_iload C dX7_year_104 0 rfl 106 rfl ?_
        have hM := c_X7_whyNotTake (l := l) (D := D) (cI := cI) (cJ := cJ) (cZ := cZ) qh B_h P_h N_h_91 L_h_91 E_h V_h G_h D_h O_h Z_h R_h I_h ((((75 * x4) + 74).tmod 65537).tmod 10) _ h
        refine k_callV C dX7_year_106 hM gX7_year_X7_whyNotTake rfl sg_X7_whyNotTake 7 rfl rfl rfl (Nat.le_of_ble_eq_true rfl) ⟨⟨rfl, rfl⟩, by decide, by decide⟩ ⟨Nat.le_refl 0, Nat.le_refl 0⟩ [0, 1, 2, 3, 4, 5, 6, 7, 8, 9, 10, 11, 12, 13, 14, 15, 16] [] rfl rfl rfl rfl (by decide) 0 0 ⟨rfl, rfl⟩ 109 rfl (fun v w1 hq106 => ?_)
        obtain ⟨r106, rfl, rfl, h⟩ := hq106
        refine k_perm C [0, 1, 2, 3, 4, 5, 6, 7, 8, 9, 10, 11, 12, 13, 14, 15, 16] [.int (iI r106)] ((wdM cI cJ cZ qh B_h P_h N_h_91 L_h_91 E_h V_h G_h D_h O_h Z_h R_h I_h)) rfl rfl rfl ?_
        obtain ⟨hr109a, h⟩ := h
        obtain ⟨ht, hf⟩ := h
        refine k_if_ne C dX7_year_109 hr109a 121 112 (by decide) rfl (fun hc109 => ?_) (fun hc109 => ?_)
        · have h := ht hc109; clear ht hf
          refine k_lv C [2, 3, 4, 1, 5, 6, 7, 8] [(0, .ref (qh 0)), (2, .int (iI x2)), (3, .int (iI x3)), (4, .int (iI (((75 * x4) + 74).tmod 65537))), (5, .int (iI x5)), (6, .int (iI x6)), (7, .int (iI x7)), (8, .int (iI x8))] rfl ?_
          refine w_X7_year_121 C x2 x3 (((75 * x4) + 74).tmod 65537) x5 x6 x7 x8 N_h_91 L_h_91 h (fun x2 x3 x4 x5 x6 x7 x8 N_h L_h h => ?_)
          · exact ih x2 x3 x4 x5 x6 x7 x8 N_h L_h h hK_147
        · have h := hf hc109; clear ht hf
          refine k_aload_n C dX7_year_112 2 rfl rfl 113 rfl ?_
          refine k_iload C dX7_year_113 0 rfl 115 rfl ?_
          have hM := c_X7_take (l := l) (D := D) (cI := cI) (cJ := cJ) (cZ := cZ) qh B_h P_h N_h_91 L_h_91 E_h V_h G_h D_h O_h Z_h R_h I_h ((((75 * x4) + 74).tmod 65537).tmod 10) _ h
          refine k_callV C dX7_year_115 hM gX7_year_X7_take rfl sg_X7_take 7 rfl rfl rfl (Nat.le_of_ble_eq_true rfl) ⟨⟨rfl, rfl⟩, by decide, by decide⟩ ⟨Nat.le_refl 0, Nat.le_refl 0⟩ [0, 1, 2, 3, 4, 5, 6, 7, 8, 9, 10, 11, 12, 13, 14, 15, 16] [] rfl rfl rfl rfl (by decide) 0 0 ⟨rfl, rfl⟩ 118 rfl (fun v w1 hq115 => ?_)
          obtain ⟨N_h_115, rfl, rfl, h⟩ := hq115
          refine k_perm C [0, 1, 2, 3, 4, 5, 6, 7, 8, 9, 10, 11, 12, 13, 14, 15, 16] [] ((wdM cI cJ cZ qh B_h P_h N_h_115 L_h_91 E_h V_h G_h D_h O_h Z_h R_h I_h)) rfl rfl rfl ?_
          refine k_iinc (j := 6) C dX7_year_118 rfl (by decide) [(6, .int (iI (x6 + 1))), (9, .int (iI ((((75 * x4) + 74).tmod 65537).tmod 10))), (4, .int (iI (((75 * x4) + 74).tmod 65537))), (0, .ref (qh 0)), (2, .int (iI x2)), (3, .int (iI x3)), (5, .int (iI x5)), (7, .int (iI x7)), (8, .int (iI x8))] rfl 121 rfl ?_
          refine k_lv C [3, 4, 5, 2, 6, 0, 7, 8] [(0, .ref (qh 0)), (2, .int (iI x2)), (3, .int (iI x3)), (4, .int (iI (((75 * x4) + 74).tmod 65537))), (5, .int (iI x5)), (6, .int (iI (x6 + 1))), (7, .int (iI x7)), (8, .int (iI x8))] rfl ?_
          refine w_X7_year_121 C x2 x3 (((75 * x4) + 74).tmod 65537) x5 (x6 + 1) x7 x8 N_h_115 L_h_91 h (fun x2 x3 x4 x5 x6 x7 x8 N_h L_h h => ?_)
          · exact ih x2 x3 x4 x5 x6 x7 x8 N_h L_h h hK_147
      · have h := hf hc94; clear ht hf
        refine k_iinc (j := 5) C dX7_year_97 rfl (by decide) [(5, .int (iI (x5 + 1))), (9, .int (iI ((((75 * x4) + 74).tmod 65537).tmod 10))), (4, .int (iI (((75 * x4) + 74).tmod 65537))), (0, .ref (qh 0)), (2, .int (iI x2)), (3, .int (iI x3)), (6, .int (iI x6)), (7, .int (iI x7)), (8, .int (iI x8))] rfl 100 rfl ?_
        refine k_goto C dX7_year_100 121 (by decide) ?_
        refine k_lv C [3, 4, 5, 2, 0, 6, 7, 8] [(0, .ref (qh 0)), (2, .int (iI x2)), (3, .int (iI x3)), (4, .int (iI (((75 * x4) + 74).tmod 65537))), (5, .int (iI (x5 + 1))), (6, .int (iI x6)), (7, .int (iI x7)), (8, .int (iI x8))] rfl ?_
        refine w_X7_year_121 C x2 x3 (((75 * x4) + 74).tmod 65537) (x5 + 1) x6 x7 x8 N_h_91 L_h_91 h (fun x2 x3 x4 x5 x6 x7 x8 N_h L_h h => ?_)
        · exact ih x2 x3 x4 x5 x6 x7 x8 N_h L_h h hK_147
set_option maxHeartbeats 4000000 in
set_option maxRecDepth 20000 in
theorem c_X7_year {l : Launch} {D : va_G} {cI cJ cZ : ClassId} (qh : Nat → Nat) (B_h : gMB) (P_h : gMP) (N_h : gMN) (L_h : gML) (E_h : gME) (V_h : gMV) (G_h : gMG) (D_h : gMD) (O_h : gMO) (Z_h : gMZ) (R_h : gMR) (I_h : gMI) (x1 : Int) (x2 : Int) (x3 : Int) (Q : Int → gMN → gML → Prop) (h : wp_X7_year B_h P_h N_h L_h x1 x2 x3 Q) : KM l D (kT cI cJ cZ) 0 0 yX7_year wsX7_year rm_X7_year [.ref (qh 0), .int (iI x1), .int (iI x2), .int (iI x3)] ((wdM cI cJ cZ qh B_h P_h N_h L_h E_h V_h G_h D_h O_h Z_h R_h I_h)) (rp_X7_year cI cJ cZ qh B_h P_h E_h V_h G_h D_h O_h Z_h R_h I_h Q) := by
  refine KM_intro (lv := [(0, .ref (qh 0)), (1, .int (iI x1)), (2, .int (iI x2)), (3, .int (iI x3))]) false rfl (by decide) (Nat.le_of_ble_eq_true rfl) rfl (fun h => absurd h (by decide)) (fun v ws hq => by obtain ⟨r, N_h, L_h, rfl, rfl, _⟩ := hq; exact Or.inr (Or.inl ⟨rfl, _, rfl⟩)) (fun A K C => ?_)
  refine k_iload_n C dX7_year_0 1 rfl rfl 1 rfl ?_
  refine k_iconst C dX7_year_1 2 rfl ?_
  refine k_sipush C dX7_year_2 (by decide) 5 rfl ?_
  have hM := c_X7_in (l := l) (D := D) (cI := cI) (cJ := cJ) (cZ := cZ) x1 0 9999 _ h
  refine k_callS C dX7_year_5 hM gX7_year_X7_in rfl sg_X7_in rfl (Nat.le_of_ble_eq_true rfl) ⟨⟨rfl, rfl⟩, by decide, by decide⟩ ⟨Nat.le_refl 0, Nat.le_refl 0⟩ [] [0, 1, 2, 3, 4, 5, 6, 7, 8, 9, 10, 11, 12, 13, 14, 15, 16] rfl rfl rfl rfl (by decide) 0 0 ⟨rfl, rfl⟩ 8 rfl (fun v w1 hq5 => ?_)
  obtain ⟨r5, rfl, rfl, hb5, h⟩ := hq5
  refine k_perm C [0, 1, 2, 3, 4, 5, 6, 7, 8, 9, 10, 11, 12, 13, 14, 15, 16] [.int (iI r5)] ((wdM cI cJ cZ qh B_h P_h N_h L_h E_h V_h G_h D_h O_h Z_h R_h I_h)) rfl rfl rfl ?_
  obtain ⟨ht, hf⟩ := h
  refine k_if_eq C dX7_year_8 (by rcases hb5 with rfl | rfl <;> decide) 30 11 (by decide) rfl (fun hc8 => ?_) (fun hc8 => ?_)
  · have h := ht hc8; clear ht hf
    refine k_bipush C dX7_year_30 (by decide) 32 rfl ?_
    exact k_iret C dX7_year_32 ⟨(-2), N_h, L_h, rfl, rfl, h⟩
  · have h := hf hc8; clear ht hf
    refine k_iload_n C dX7_year_11 2 rfl rfl 12 rfl ?_
    refine k_iconst C dX7_year_12 13 rfl ?_
    refine k_bipush C dX7_year_13 (by decide) 15 rfl ?_
    have hM := c_X7_in (l := l) (D := D) (cI := cI) (cJ := cJ) (cZ := cZ) x2 1 99 _ h
    refine k_callS C dX7_year_15 hM gX7_year_X7_in rfl sg_X7_in rfl (Nat.le_of_ble_eq_true rfl) ⟨⟨rfl, rfl⟩, by decide, by decide⟩ ⟨Nat.le_refl 0, Nat.le_refl 0⟩ [] [0, 1, 2, 3, 4, 5, 6, 7, 8, 9, 10, 11, 12, 13, 14, 15, 16] rfl rfl rfl rfl (by decide) 0 0 ⟨rfl, rfl⟩ 18 rfl (fun v w1 hq15 => ?_)
    obtain ⟨r15, rfl, rfl, hb15, h⟩ := hq15
    refine k_perm C [0, 1, 2, 3, 4, 5, 6, 7, 8, 9, 10, 11, 12, 13, 14, 15, 16] [.int (iI r15)] ((wdM cI cJ cZ qh B_h P_h N_h L_h E_h V_h G_h D_h O_h Z_h R_h I_h)) rfl rfl rfl ?_
    obtain ⟨ht, hf⟩ := h
    refine k_if_eq C dX7_year_18 (by rcases hb15 with rfl | rfl <;> decide) 30 21 (by decide) rfl (fun hc18 => ?_) (fun hc18 => ?_)
    · have h := ht hc18; clear ht hf
      refine k_bipush C dX7_year_30 (by decide) 32 rfl ?_
      exact k_iret C dX7_year_32 ⟨(-2), N_h, L_h, rfl, rfl, h⟩
    · have h := hf hc18; clear ht hf
      refine k_iload_n C dX7_year_21 3 rfl rfl 22 rfl ?_
      refine k_iconst C dX7_year_22 23 rfl ?_
      refine k_iconst C dX7_year_23 24 rfl ?_
      have hM := c_X7_in (l := l) (D := D) (cI := cI) (cJ := cJ) (cZ := cZ) x3 0 2 _ h
      refine k_callS C dX7_year_24 hM gX7_year_X7_in rfl sg_X7_in rfl (Nat.le_of_ble_eq_true rfl) ⟨⟨rfl, rfl⟩, by decide, by decide⟩ ⟨Nat.le_refl 0, Nat.le_refl 0⟩ [] [0, 1, 2, 3, 4, 5, 6, 7, 8, 9, 10, 11, 12, 13, 14, 15, 16] rfl rfl rfl rfl (by decide) 0 0 ⟨rfl, rfl⟩ 27 rfl (fun v w1 hq24 => ?_)
      obtain ⟨r24, rfl, rfl, hb24, h⟩ := hq24
      refine k_perm C [0, 1, 2, 3, 4, 5, 6, 7, 8, 9, 10, 11, 12, 13, 14, 15, 16] [.int (iI r24)] ((wdM cI cJ cZ qh B_h P_h N_h L_h E_h V_h G_h D_h O_h Z_h R_h I_h)) rfl rfl rfl ?_
      obtain ⟨ht, hf⟩ := h
      refine k_if_ne C dX7_year_27 (by rcases hb24 with rfl | rfl <;> decide) 33 30 (by decide) rfl (fun hc27 => ?_) (fun hc27 => ?_)
      · have h := ht hc27; clear ht hf
        refine k_aload_n C dX7_year_33 0 rfl rfl 34 rfl ?_
        have hM := c_X7_asNow (l := l) (D := D) (cI := cI) (cJ := cJ) (cZ := cZ) qh B_h P_h N_h L_h E_h V_h G_h D_h O_h Z_h R_h I_h _ h
        refine k_callV C dX7_year_34 hM gX7_year_X7_asNow rfl sg_X7_asNow 7 rfl rfl rfl (Nat.le_of_ble_eq_true rfl) ⟨⟨rfl, rfl⟩, by decide, by decide⟩ ⟨Nat.le_refl 0, Nat.le_refl 0⟩ [0, 1, 2, 3, 4, 5, 6, 7, 8, 9, 10, 11, 12, 13, 14, 15, 16] [] rfl rfl rfl rfl (by decide) 0 0 ⟨rfl, rfl⟩ 37 rfl (fun v w1 hq34 => ?_)
        obtain ⟨N_h_34, rfl, rfl, h⟩ := hq34
        refine k_perm C [0, 1, 2, 3, 4, 5, 6, 7, 8, 9, 10, 11, 12, 13, 14, 15, 16] [] ((wdM cI cJ cZ qh B_h P_h N_h_34 L_h E_h V_h G_h D_h O_h Z_h R_h I_h)) rfl rfl rfl ?_
        refine k_iload_n C dX7_year_37 1 rfl rfl 38 rfl ?_
        refine k_istore C dX7_year_38 (by decide) [(4, .int (iI x1)), (0, .ref (qh 0)), (1, .int (iI x1)), (2, .int (iI x2)), (3, .int (iI x3))] rfl 40 rfl ?_
        refine k_iconst C dX7_year_40 41 rfl ?_
        refine k_istore C dX7_year_41 (by decide) [(5, .int (iI 0)), (4, .int (iI x1)), (0, .ref (qh 0)), (1, .int (iI x1)), (2, .int (iI x2)), (3, .int (iI x3))] rfl 43 rfl ?_
        refine k_iconst C dX7_year_43 44 rfl ?_
        refine k_istore C dX7_year_44 (by decide) [(6, .int (iI 0)), (5, .int (iI 0)), (4, .int (iI x1)), (0, .ref (qh 0)), (1, .int (iI x1)), (2, .int (iI x2)), (3, .int (iI x3))] rfl 46 rfl ?_
        refine k_iconst C dX7_year_46 47 rfl ?_
        refine k_istore C dX7_year_47 (by decide) [(7, .int (iI 0)), (6, .int (iI 0)), (5, .int (iI 0)), (4, .int (iI x1)), (0, .ref (qh 0)), (1, .int (iI x1)), (2, .int (iI x2)), (3, .int (iI x3))] rfl 49 rfl ?_
        refine k_iconst C dX7_year_49 50 rfl ?_
        refine k_istore C dX7_year_50 (by decide) [(8, .int (iI 0)), (7, .int (iI 0)), (6, .int (iI 0)), (5, .int (iI 0)), (4, .int (iI x1)), (0, .ref (qh 0)), (1, .int (iI x1)), (2, .int (iI x2)), (3, .int (iI x3))] rfl 52 rfl ?_
        refine k_lv C [5, 7, 8, 4, 3, 2, 1, 0] [(0, .ref (qh 0)), (2, .int (iI x2)), (3, .int (iI x3)), (4, .int (iI x1)), (5, .int (iI 0)), (6, .int (iI 0)), (7, .int (iI 0)), (8, .int (iI 0))] rfl ?_
        obtain ⟨m52, h⟩ := h
        refine w_X7_year_52 C m52 x2 x3 x1 0 0 0 0 N_h_34 L_h h (fun x3 x5 x6 x7 N_h L_h h => ?_)
        · refine k_iload_n C dX7_year_147 0 rfl rfl 148 rfl ?_
          obtain ⟨hr148a, h⟩ := h
          obtain ⟨ht, hf⟩ := h
          refine k_if_ne C dX7_year_148 hr148a 156 151 (by decide) rfl (fun hc148 => ?_) (fun hc148 => ?_)
          · have h := ht hc148; clear ht hf
            refine k_iload_n C dX7_year_156 0 rfl rfl 157 rfl ?_
            refine k_iconst C dX7_year_157 158 rfl ?_
            obtain ⟨ht, hf⟩ := h
            refine k_icmp_ne C dX7_year_158 ⟨hr148a, (by decide)⟩ 166 161 (by decide) rfl (fun hc158 => ?_) (fun hc158 => ?_)
            · have h := ht hc158; clear ht hf
              refine k_iload C dX7_year_166 3 rfl 168 rfl ?_
              exact k_iret C dX7_year_168 ⟨x7, N_h, L_h, rfl, rfl, h⟩
            · have h := hf hc158; clear ht hf
              refine k_iload C dX7_year_161 2 rfl 163 rfl ?_
              refine k_goto C dX7_year_163 168 (by decide) ?_
              exact k_iret C dX7_year_168 ⟨x6, N_h, L_h, rfl, rfl, h⟩
          · have h := hf hc148; clear ht hf
            refine k_iload C dX7_year_151 1 rfl 153 rfl ?_
            refine k_goto C dX7_year_153 168 (by decide) ?_
            exact k_iret C dX7_year_168 ⟨x5, N_h, L_h, rfl, rfl, h⟩
      · have h := hf hc27; clear ht hf
        refine k_bipush C dX7_year_30 (by decide) 32 rfl ?_
        exact k_iret C dX7_year_32 ⟨(-2), N_h, L_h, rfl, rfl, h⟩

/-! X7_image -/
abbrev rm_X7_image : Room := { frames := 1, cells := 0, slots := 0, locals := 22 }
theorem sg_X7_image : yX7_image.cls ≠ "java/lang/invoke/MethodHandle" ∧ yX7_image.cls ≠ "java/lang/invoke/VarHandle" ∧ (parseMethodDescriptor yX7_image.desc).map (fun d => d.parameters.length) = some 1 := by decide +kernel
theorem hin_X7_image_7 : ∀ w ∈ wsX70, w ∈ wsX7_image := fun _ h => List.mem_cons_of_mem _ (List.mem_append_right _ h)
def rp_X7_image (cI cJ cZ : ClassId) (qh : Nat → Nat) (B_h : gMB) (P_h : gMP) (N_h : gMN) (L_h : gML) (E_h : gME) (V_h : gMV) (G_h : gMG) (D_h : gMD) (O_h : gMO) (Z_h : gMZ) (R_h : gMR) (Q : Int → gMI → Prop) : Option Value → va_W → Prop := fun v w1 => ∃ (r : Int) (I_h : gMI), v = some (.int (iI r)) ∧ w1 = (wdM cI cJ cZ qh B_h P_h N_h L_h E_h V_h G_h D_h O_h Z_h R_h I_h) ∧ Q r I_h
def wp_X7_image_19 (B_h : gMB) (P_h : gMP) (K_113 : Int → Int → gMI → Prop)  (Q : Int → gMI → Prop) : Nat → Int → Int → Int → gMI → Prop
  | 0, _, _, _, _ => False
  | n19 + 1, x1, x2, x3, I_h =>
    rI x3 ∧ ((10 ≤ x3 → K_113 x1 x2 I_h) ∧ (¬ (10 ≤ x3) → (0 ≤ x3 ∧ x3 < 10) ∧ (0 ≤ (x2 + x3) ∧ (x2 + x3) < 160) ∧ (0 ≤ ((x2 + 10) + x3) ∧ ((x2 + 10) + x3) < 160) ∧ (0 ≤ ((x2 + 20) + x3) ∧ ((x2 + 20) + x3) < 160) ∧ (0 ≤ ((x2 + 30) + x3) ∧ ((x2 + 30) + x3) < 160) ∧ (0 ≤ ((x2 + 40) + x3) ∧ ((x2 + 40) + x3) < 160) ∧ wp_X7_image_19 B_h P_h K_113 Q n19 x1 x2 (x3 + 1) (aset (aset (aset (aset (aset I_h.1 (x2 + x3) (B_h.2.2.1 x3)) ((x2 + 10) + x3) (B_h.2.2.2.1 x3)) ((x2 + 20) + x3) (B_h.2.2.2.2 x3)) ((x2 + 30) + x3) (P_h.1 x3)) ((x2 + 40) + x3) (P_h.2 x3), I_h.2)))
def wp_X7_image_115 (G_h : gMG) (K_144 : Int → Int → gMI → Prop)  (Q : Int → gMI → Prop) : Nat → Int → Int → Int → gMI → Prop
  | 0, _, _, _, _ => False
  | n115 + 1, x1, x2, x3, I_h =>
    rI x3 ∧ ((16 ≤ x3 → K_144 x1 x2 I_h) ∧ (¬ (16 ≤ x3) → (0 ≤ x3 ∧ x3 < 16) ∧ (0 ≤ ((x2 + 50) + x3) ∧ ((x2 + 50) + x3) < 160) ∧ wp_X7_image_115 G_h K_144 Q n115 x1 x2 (x3 + 1) (aset I_h.1 ((x2 + 50) + x3) (G_h.2 x3), I_h.2)))
def wp_X7_image (B_h : gMB) (P_h : gMP) (G_h : gMG) (I_h : gMI) (x1 : Int) (Q : Int → gMI → Prop) : Prop :=
    wp_X7_in x1 0 1 (fun (r3 : Int) => ((¬ r3 = 0 → ∃ m19, wp_X7_image_19 B_h P_h (fun (x1 : Int) (x2 : Int) (I_h : gMI) => ∃ m115, wp_X7_image_115 G_h (fun (x1 : Int) (x2 : Int) (I_h : gMI) => (0 ≤ (x2 + 70) ∧ (x2 + 70) < 160) ∧ (0 ≤ (x2 + 71) ∧ (x2 + 71) < 160) ∧ (0 ≤ (x2 + 72) ∧ (x2 + 72) < 160) ∧ (0 ≤ x1 ∧ x1 < 2) ∧ Q 1 (aset (aset (aset I_h.1 (x2 + 70) B_h.1) (x2 + 71) B_h.2.1) (x2 + 72) G_h.1, aset I_h.2 x1 1)) Q m115 x1 x2 0 I_h) Q m19 x1 (80 * x1) 0 I_h) ∧ (¬ (¬ r3 = 0) → Q (-2) I_h)))
set_option maxHeartbeats 4000000 in
set_option maxRecDepth 20000 in
theorem w_X7_image_19 {l : Launch} {D : va_G} {cI cJ cZ : ClassId} {A : Nat → Prop} {K : KT} {qh : Nat → Nat} {B_h : gMB} {P_h : gMP} {N_h : gMN} {L_h : gML} {E_h : gME} {V_h : gMV} {G_h : gMG} {D_h : gMD} {O_h : gMO} {Z_h : gMZ} {R_h : gMR} {Q : Int → gMI → Prop} {K_113 : Int → Int → gMI → Prop} (C : KC cX7_image yX7_image.cls wsX7_image rm_X7_image 4 D (kT cI cJ cZ) A l false (rp_X7_image cI cJ cZ qh B_h P_h N_h L_h E_h V_h G_h D_h O_h Z_h R_h Q) 0 0 K) : ∀ (n : Nat) (x1 : Int) (x2 : Int) (x3 : Int) (I_h : gMI), wp_X7_image_19 B_h P_h K_113 Q n x1 x2 x3 I_h → (∀ (x1 : Int) (x2 : Int) (I_h : gMI), K_113 x1 x2 I_h → K 0 0 113 [(0, .ref (qh 0)), (1, .int (iI x1)), (2, .int (iI x2))] [] ((wdM cI cJ cZ qh B_h P_h N_h L_h E_h V_h G_h D_h O_h Z_h R_h I_h))) → K 0 0 19 [(0, .ref (qh 0)), (1, .int (iI x1)), (2, .int (iI x2)), (3, .int (iI x3))] [] ((wdM cI cJ cZ qh B_h P_h N_h L_h E_h V_h G_h D_h O_h Z_h R_h I_h)) := by
  intro n
  induction n with
  | zero => intro x1 x2 x3 I_h h; exact h.elim
  | succ n ih =>
    intro x1 x2 x3 I_h h hK_113
    refine k_iload_n C dX7_image_19 3 rfl rfl 20 rfl ?_
    refine k_bipush C dX7_image_20 (by decide) 22 rfl ?_
    obtain ⟨hr22a, h⟩ := h
    obtain ⟨ht, hf⟩ := h
    refine k_icmp_ge C dX7_image_22 ⟨hr22a, (by decide)⟩ 113 25 (by decide) rfl (fun hc22 => ?_) (fun hc22 => ?_)
    · have h := ht hc22; clear ht hf
      refine k_lv C [0, 1, 2] [(0, .ref (qh 0)), (1, .int (iI x1)), (2, .int (iI x2))] rfl ?_
      exact hK_113 x1 x2 I_h h
    · have h := hf hc22; clear ht hf
      refine k_aload_n C dX7_image_25 0 rfl rfl 26 rfl ?_
      refine k_get C dX7_image_26 0 rfl (ci := 7) rfl hin_X7_image_7 24 (by decide) (List.mem_of_getElem? (i := 1) rfl) rfl 29 rfl ?_
      refine k_iload_n C dX7_image_29 2 rfl rfl 30 rfl ?_
      refine k_iload_n C dX7_image_30 3 rfl rfl 31 rfl ?_
      refine k_iadd C dX7_image_31 32 rfl ?_
      refine k_aload_n C dX7_image_32 0 rfl rfl 33 rfl ?_
      refine k_get C dX7_image_33 0 rfl (ci := 7) rfl hin_X7_image_7 2 (by decide) (List.mem_of_getElem? (i := 2) rfl) rfl 36 rfl ?_
      refine k_iload_n C dX7_image_36 3 rfl rfl 37 rfl ?_
      obtain ⟨hi37, h⟩ := h
      refine k_iaload C dX7_image_37 1 0 rfl rfl (by decide) hi37 38 rfl ?_
      obtain ⟨hi38, h⟩ := h
      refine k_iastore C dX7_image_38 15 0 rfl rfl (by decide) hi38 ((wdM cI cJ cZ qh B_h P_h N_h L_h E_h V_h G_h D_h O_h Z_h R_h (aset I_h.1 (x2 + x3) (B_h.2.2.1 x3), I_h.2))) rfl 39 rfl ?_
      refine k_aload_n C dX7_image_39 0 rfl rfl 40 rfl ?_
      refine k_get C dX7_image_40 0 rfl (ci := 7) rfl hin_X7_image_7 24 (by decide) (List.mem_of_getElem? (i := 1) rfl) rfl 43 rfl ?_
      refine k_iload_n C dX7_image_43 2 rfl rfl 44 rfl ?_
      refine k_bipush C dX7_image_44 (by decide) 46 rfl ?_
      refine k_iadd C dX7_image_46 47 rfl ?_
      refine k_iload_n C dX7_image_47 3 rfl rfl 48 rfl ?_
      refine k_iadd C dX7_image_48 49 rfl ?_
      refine k_aload_n C dX7_image_49 0 rfl rfl 50 rfl ?_
      refine k_get C dX7_image_50 0 rfl (ci := 7) rfl hin_X7_image_7 3 (by decide) (List.mem_of_getElem? (i := 3) rfl) rfl 53 rfl ?_
      refine k_iload_n C dX7_image_53 3 rfl rfl 54 rfl ?_
      refine k_iaload C dX7_image_54 2 0 rfl rfl (by decide) hi37 55 rfl ?_
      obtain ⟨hi55, h⟩ := h
      refine k_iastore C dX7_image_55 15 0 rfl rfl (by decide) hi55 ((wdM cI cJ cZ qh B_h P_h N_h L_h E_h V_h G_h D_h O_h Z_h R_h (aset (aset I_h.1 (x2 + x3) (B_h.2.2.1 x3)) ((x2 + 10) + x3) (B_h.2.2.2.1 x3), I_h.2))) rfl 56 rfl ?_
      refine k_aload_n C dX7_image_56 0 rfl rfl 57 rfl ?_
      refine k_get C dX7_image_57 0 rfl (ci := 7) rfl hin_X7_image_7 24 (by decide) (List.mem_of_getElem? (i := 1) rfl) rfl 60 rfl ?_
      refine k_iload_n C dX7_image_60 2 rfl rfl 61 rfl ?_
      refine k_bipush C dX7_image_61 (by decide) 63 rfl ?_
      refine k_iadd C dX7_image_63 64 rfl ?_
      refine k_iload_n C dX7_image_64 3 rfl rfl 65 rfl ?_
      refine k_iadd C dX7_image_65 66 rfl ?_
      refine k_aload_n C dX7_image_66 0 rfl rfl 67 rfl ?_
      refine k_get C dX7_image_67 0 rfl (ci := 7) rfl hin_X7_image_7 4 (by decide) (List.mem_of_getElem? (i := 4) rfl) rfl 70 rfl ?_
      refine k_iload_n C dX7_image_70 3 rfl rfl 71 rfl ?_
      refine k_iaload C dX7_image_71 3 0 rfl rfl (by decide) hi37 72 rfl ?_
      obtain ⟨hi72, h⟩ := h
      refine k_iastore C dX7_image_72 15 0 rfl rfl (by decide) hi72 ((wdM cI cJ cZ qh B_h P_h N_h L_h E_h V_h G_h D_h O_h Z_h R_h (aset (aset (aset I_h.1 (x2 + x3) (B_h.2.2.1 x3)) ((x2 + 10) + x3) (B_h.2.2.2.1 x3)) ((x2 + 20) + x3) (B_h.2.2.2.2 x3), I_h.2))) rfl 73 rfl ?_
      refine k_aload_n C dX7_image_73 0 rfl rfl 74 rfl ?_
      refine k_get C dX7_image_74 0 rfl (ci := 7) rfl hin_X7_image_7 24 (by decide) (List.mem_of_getElem? (i := 1) rfl) rfl 77 rfl ?_
      refine k_iload_n C dX7_image_77 2 rfl rfl 78 rfl ?_
      refine k_bipush C dX7_image_78 (by decide) 80 rfl ?_
      refine k_iadd C dX7_image_80 81 rfl ?_
      refine k_iload_n C dX7_image_81 3 rfl rfl 82 rfl ?_
      refine k_iadd C dX7_image_82 83 rfl ?_
      refine k_aload_n C dX7_image_83 0 rfl rfl 84 rfl ?_
      refine k_get C dX7_image_84 0 rfl (ci := 7) rfl hin_X7_image_7 5 (by decide) (List.mem_of_getElem? (i := 5) rfl) rfl 87 rfl ?_
      refine k_iload_n C dX7_image_87 3 rfl rfl 88 rfl ?_
      refine k_iaload C dX7_image_88 4 0 rfl rfl (by decide) hi37 89 rfl ?_
      obtain ⟨hi89, h⟩ := h
      refine k_iastore C dX7_image_89 15 0 rfl rfl (by decide) hi89 ((wdM cI cJ cZ qh B_h P_h N_h L_h E_h V_h G_h D_h O_h Z_h R_h (aset (aset (aset (aset I_h.1 (x2 + x3) (B_h.2.2.1 x3)) ((x2 + 10) + x3) (B_h.2.2.2.1 x3)) ((x2 + 20) + x3) (B_h.2.2.2.2 x3)) ((x2 + 30) + x3) (P_h.1 x3), I_h.2))) rfl 90 rfl ?_
      refine k_aload_n C dX7_image_90 0 rfl rfl 91 rfl ?_
      refine k_get C dX7_image_91 0 rfl (ci := 7) rfl hin_X7_image_7 24 (by decide) (List.mem_of_getElem? (i := 1) rfl) rfl 94 rfl ?_
      refine k_iload_n C dX7_image_94 2 rfl rfl 95 rfl ?_
      refine k_bipush C dX7_image_95 (by decide) 97 rfl ?_
      refine k_iadd C dX7_image_97 98 rfl ?_
      refine k_iload_n C dX7_image_98 3 rfl rfl 99 rfl ?_
      refine k_iadd C dX7_image_99 100 rfl ?_
      refine k_aload_n C dX7_image_100 0 rfl rfl 101 rfl ?_
      refine k_get C dX7_image_101 0 rfl (ci := 7) rfl hin_X7_image_7 6 (by decide) (List.mem_of_getElem? (i := 6) rfl) rfl 104 rfl ?_
      refine k_iload_n C dX7_image_104 3 rfl rfl 105 rfl ?_
      refine k_iaload C dX7_image_105 5 0 rfl rfl (by decide) hi37 106 rfl ?_
      obtain ⟨hi106, h⟩ := h
      refine k_iastore C dX7_image_106 15 0 rfl rfl (by decide) hi106 ((wdM cI cJ cZ qh B_h P_h N_h L_h E_h V_h G_h D_h O_h Z_h R_h (aset (aset (aset (aset (aset I_h.1 (x2 + x3) (B_h.2.2.1 x3)) ((x2 + 10) + x3) (B_h.2.2.2.1 x3)) ((x2 + 20) + x3) (B_h.2.2.2.2 x3)) ((x2 + 30) + x3) (P_h.1 x3)) ((x2 + 40) + x3) (P_h.2 x3), I_h.2))) rfl 107 rfl ?_
      refine k_iinc (j := 3) C dX7_image_107 rfl (by decide) [(3, .int (iI (x3 + 1))), (0, .ref (qh 0)), (1, .int (iI x1)), (2, .int (iI x2))] rfl 110 rfl ?_
      refine k_goto C dX7_image_110 19 (by decide) ?_
      refine k_lv C [1, 2, 3, 0] [(0, .ref (qh 0)), (1, .int (iI x1)), (2, .int (iI x2)), (3, .int (iI (x3 + 1)))] rfl ?_
      exact ih x1 x2 (x3 + 1) (aset (aset (aset (aset (aset I_h.1 (x2 + x3) (B_h.2.2.1 x3)) ((x2 + 10) + x3) (B_h.2.2.2.1 x3)) ((x2 + 20) + x3) (B_h.2.2.2.2 x3)) ((x2 + 30) + x3) (P_h.1 x3)) ((x2 + 40) + x3) (P_h.2 x3), I_h.2) h hK_113
set_option maxHeartbeats 4000000 in
set_option maxRecDepth 20000 in
theorem w_X7_image_115 {l : Launch} {D : va_G} {cI cJ cZ : ClassId} {A : Nat → Prop} {K : KT} {qh : Nat → Nat} {B_h : gMB} {P_h : gMP} {N_h : gMN} {L_h : gML} {E_h : gME} {V_h : gMV} {G_h : gMG} {D_h : gMD} {O_h : gMO} {Z_h : gMZ} {R_h : gMR} {Q : Int → gMI → Prop} {K_144 : Int → Int → gMI → Prop} (C : KC cX7_image yX7_image.cls wsX7_image rm_X7_image 4 D (kT cI cJ cZ) A l false (rp_X7_image cI cJ cZ qh B_h P_h N_h L_h E_h V_h G_h D_h O_h Z_h R_h Q) 0 0 K) : ∀ (n : Nat) (x1 : Int) (x2 : Int) (x3 : Int) (I_h : gMI), wp_X7_image_115 G_h K_144 Q n x1 x2 x3 I_h → (∀ (x1 : Int) (x2 : Int) (I_h : gMI), K_144 x1 x2 I_h → K 0 0 144 [(0, .ref (qh 0)), (1, .int (iI x1)), (2, .int (iI x2))] [] ((wdM cI cJ cZ qh B_h P_h N_h L_h E_h V_h G_h D_h O_h Z_h R_h I_h))) → K 0 0 115 [(0, .ref (qh 0)), (1, .int (iI x1)), (2, .int (iI x2)), (3, .int (iI x3))] [] ((wdM cI cJ cZ qh B_h P_h N_h L_h E_h V_h G_h D_h O_h Z_h R_h I_h)) := by
  intro n
  induction n with
  | zero => intro x1 x2 x3 I_h h; exact h.elim
  | succ n ih =>
    intro x1 x2 x3 I_h h hK_144
    refine k_iload_n C dX7_image_115 3 rfl rfl 116 rfl ?_
    refine k_bipush C dX7_image_116 (by decide) 118 rfl ?_
    obtain ⟨hr118a, h⟩ := h
    obtain ⟨ht, hf⟩ := h
    refine k_icmp_ge C dX7_image_118 ⟨hr118a, (by decide)⟩ 144 121 (by decide) rfl (fun hc118 => ?_) (fun hc118 => ?_)
    · have h := ht hc118; clear ht hf
      refine k_lv C [0, 1, 2] [(0, .ref (qh 0)), (1, .int (iI x1)), (2, .int (iI x2))] rfl ?_
      exact hK_144 x1 x2 I_h h
    · have h := hf hc118; clear ht hf
      refine k_aload_n C dX7_image_121 0 rfl rfl 122 rfl ?_
      refine k_get C dX7_image_122 0 rfl (ci := 7) rfl hin_X7_image_7 24 (by decide) (List.mem_of_getElem? (i := 1) rfl) rfl 125 rfl ?_
      refine k_iload_n C dX7_image_125 2 rfl rfl 126 rfl ?_
      refine k_bipush C dX7_image_126 (by decide) 128 rfl ?_
      refine k_iadd C dX7_image_128 129 rfl ?_
      refine k_iload_n C dX7_image_129 3 rfl rfl 130 rfl ?_
      refine k_iadd C dX7_image_130 131 rfl ?_
      refine k_aload_n C dX7_image_131 0 rfl rfl 132 rfl ?_
      refine k_get C dX7_image_132 0 rfl (ci := 7) rfl hin_X7_image_7 8 (by decide) (List.mem_of_getElem? (i := 7) rfl) rfl 135 rfl ?_
      refine k_iload_n C dX7_image_135 3 rfl rfl 136 rfl ?_
      obtain ⟨hi136, h⟩ := h
      refine k_iaload C dX7_image_136 6 0 rfl rfl (by decide) hi136 137 rfl ?_
      obtain ⟨hi137, h⟩ := h
      refine k_iastore C dX7_image_137 15 0 rfl rfl (by decide) hi137 ((wdM cI cJ cZ qh B_h P_h N_h L_h E_h V_h G_h D_h O_h Z_h R_h (aset I_h.1 ((x2 + 50) + x3) (G_h.2 x3), I_h.2))) rfl 138 rfl ?_
      refine k_iinc (j := 3) C dX7_image_138 rfl (by decide) [(3, .int (iI (x3 + 1))), (0, .ref (qh 0)), (1, .int (iI x1)), (2, .int (iI x2))] rfl 141 rfl ?_
      refine k_goto C dX7_image_141 115 (by decide) ?_
      refine k_lv C [1, 2, 3, 0] [(0, .ref (qh 0)), (1, .int (iI x1)), (2, .int (iI x2)), (3, .int (iI (x3 + 1)))] rfl ?_
      exact ih x1 x2 (x3 + 1) (aset I_h.1 ((x2 + 50) + x3) (G_h.2 x3), I_h.2) h hK_144
set_option maxHeartbeats 4000000 in
set_option maxRecDepth 20000 in
theorem c_X7_image {l : Launch} {D : va_G} {cI cJ cZ : ClassId} (qh : Nat → Nat) (B_h : gMB) (P_h : gMP) (N_h : gMN) (L_h : gML) (E_h : gME) (V_h : gMV) (G_h : gMG) (D_h : gMD) (O_h : gMO) (Z_h : gMZ) (R_h : gMR) (I_h : gMI) (x1 : Int) (Q : Int → gMI → Prop) (h : wp_X7_image B_h P_h G_h I_h x1 Q) : KM l D (kT cI cJ cZ) 0 0 yX7_image wsX7_image rm_X7_image [.ref (qh 0), .int (iI x1)] ((wdM cI cJ cZ qh B_h P_h N_h L_h E_h V_h G_h D_h O_h Z_h R_h I_h)) (rp_X7_image cI cJ cZ qh B_h P_h N_h L_h E_h V_h G_h D_h O_h Z_h R_h Q) := by
  refine KM_intro (lv := [(0, .ref (qh 0)), (1, .int (iI x1))]) false rfl (by decide) (Nat.le_of_ble_eq_true rfl) rfl (fun h => absurd h (by decide)) (fun v ws hq => by obtain ⟨r, I_h, rfl, rfl, _⟩ := hq; exact Or.inr (Or.inl ⟨rfl, _, rfl⟩)) (fun A K C => ?_)
  refine k_iload_n C dX7_image_0 1 rfl rfl 1 rfl ?_
  refine k_iconst C dX7_image_1 2 rfl ?_
  refine k_iconst C dX7_image_2 3 rfl ?_
  have hM := c_X7_in (l := l) (D := D) (cI := cI) (cJ := cJ) (cZ := cZ) x1 0 1 _ h
  refine k_callS C dX7_image_3 hM gX7_image_X7_in rfl sg_X7_in rfl (Nat.le_of_ble_eq_true rfl) ⟨⟨rfl, rfl⟩, by decide, by decide⟩ ⟨Nat.le_refl 0, Nat.le_refl 0⟩ [] [0, 1, 2, 3, 4, 5, 6, 7, 8, 9, 10, 11, 12, 13, 14, 15, 16] rfl rfl rfl rfl (by decide) 0 0 ⟨rfl, rfl⟩ 6 rfl (fun v w1 hq3 => ?_)
  obtain ⟨r3, rfl, rfl, hb3, h⟩ := hq3
  refine k_perm C [0, 1, 2, 3, 4, 5, 6, 7, 8, 9, 10, 11, 12, 13, 14, 15, 16] [.int (iI r3)] ((wdM cI cJ cZ qh B_h P_h N_h L_h E_h V_h G_h D_h O_h Z_h R_h I_h)) rfl rfl rfl ?_
  obtain ⟨ht, hf⟩ := h
  refine k_if_ne C dX7_image_6 (by rcases hb3 with rfl | rfl <;> decide) 12 9 (by decide) rfl (fun hc6 => ?_) (fun hc6 => ?_)
  · have h := ht hc6; clear ht hf
    refine k_bipush C dX7_image_12 (by decide) 14 rfl ?_
    refine k_iload_n C dX7_image_14 1 rfl rfl 15 rfl ?_
    refine k_imul C dX7_image_15 16 rfl ?_
    refine k_istore_n C dX7_image_16 rfl (by decide) [(2, .int (iI (80 * x1))), (0, .ref (qh 0)), (1, .int (iI x1))] rfl 17 rfl ?_
    refine k_iconst C dX7_image_17 18 rfl ?_
    refine k_istore_n C dX7_image_18 rfl (by decide) [(3, .int (iI 0)), (2, .int (iI (80 * x1))), (0, .ref (qh 0)), (1, .int (iI x1))] rfl 19 rfl ?_
    refine k_lv C [2, 3, 1, 0] [(0, .ref (qh 0)), (1, .int (iI x1)), (2, .int (iI (80 * x1))), (3, .int (iI 0))] rfl ?_
    obtain ⟨m19, h⟩ := h
    refine w_X7_image_19 C m19 x1 (80 * x1) 0 I_h h (fun x1 x2 I_h h => ?_)
    · refine k_iconst C dX7_image_113 114 rfl ?_
      refine k_istore_n C dX7_image_114 rfl (by decide) [(3, .int (iI 0)), (0, .ref (qh 0)), (1, .int (iI x1)), (2, .int (iI x2))] rfl 115 rfl ?_
      refine k_lv C [1, 2, 3, 0] [(0, .ref (qh 0)), (1, .int (iI x1)), (2, .int (iI x2)), (3, .int (iI 0))] rfl ?_
      obtain ⟨m115, h⟩ := h
      refine w_X7_image_115 C m115 x1 x2 0 I_h h (fun x1 x2 I_h h => ?_)
      · refine k_aload_n C dX7_image_144 0 rfl rfl 145 rfl ?_
        refine k_get C dX7_image_145 0 rfl (ci := 7) rfl hin_X7_image_7 24 (by decide) (List.mem_of_getElem? (i := 1) rfl) rfl 148 rfl ?_
        refine k_iload_n C dX7_image_148 2 rfl rfl 149 rfl ?_
        refine k_bipush C dX7_image_149 (by decide) 151 rfl ?_
        refine k_iadd C dX7_image_151 152 rfl ?_
        refine k_aload_n C dX7_image_152 0 rfl rfl 153 rfl ?_
        refine k_get C dX7_image_153 0 rfl (ci := 7) rfl hin_X7_image_7 0 (by decide) (List.mem_of_getElem? (i := 8) rfl) rfl 156 rfl ?_
        obtain ⟨hi156, h⟩ := h
        refine k_iastore C dX7_image_156 15 0 rfl rfl (by decide) hi156 ((wdM cI cJ cZ qh B_h P_h N_h L_h E_h V_h G_h D_h O_h Z_h R_h (aset I_h.1 (x2 + 70) B_h.1, I_h.2))) rfl 157 rfl ?_
        refine k_aload_n C dX7_image_157 0 rfl rfl 158 rfl ?_
        refine k_get C dX7_image_158 0 rfl (ci := 7) rfl hin_X7_image_7 24 (by decide) (List.mem_of_getElem? (i := 1) rfl) rfl 161 rfl ?_
        refine k_iload_n C dX7_image_161 2 rfl rfl 162 rfl ?_
        refine k_bipush C dX7_image_162 (by decide) 164 rfl ?_
        refine k_iadd C dX7_image_164 165 rfl ?_
        refine k_aload_n C dX7_image_165 0 rfl rfl 166 rfl ?_
        refine k_get C dX7_image_166 0 rfl (ci := 7) rfl hin_X7_image_7 1 (by decide) (List.mem_of_getElem? (i := 9) rfl) rfl 169 rfl ?_
        obtain ⟨hi169, h⟩ := h
        refine k_iastore C dX7_image_169 15 0 rfl rfl (by decide) hi169 ((wdM cI cJ cZ qh B_h P_h N_h L_h E_h V_h G_h D_h O_h Z_h R_h (aset (aset I_h.1 (x2 + 70) B_h.1) (x2 + 71) B_h.2.1, I_h.2))) rfl 170 rfl ?_
        refine k_aload_n C dX7_image_170 0 rfl rfl 171 rfl ?_
        refine k_get C dX7_image_171 0 rfl (ci := 7) rfl hin_X7_image_7 24 (by decide) (List.mem_of_getElem? (i := 1) rfl) rfl 174 rfl ?_
        refine k_iload_n C dX7_image_174 2 rfl rfl 175 rfl ?_
        refine k_bipush C dX7_image_175 (by decide) 177 rfl ?_
        refine k_iadd C dX7_image_177 178 rfl ?_
        refine k_aload_n C dX7_image_178 0 rfl rfl 179 rfl ?_
        refine k_get C dX7_image_179 0 rfl (ci := 7) rfl hin_X7_image_7 7 (by decide) (List.mem_of_getElem? (i := 10) rfl) rfl 182 rfl ?_
        obtain ⟨hi182, h⟩ := h
        refine k_iastore C dX7_image_182 15 0 rfl rfl (by decide) hi182 ((wdM cI cJ cZ qh B_h P_h N_h L_h E_h V_h G_h D_h O_h Z_h R_h (aset (aset (aset I_h.1 (x2 + 70) B_h.1) (x2 + 71) B_h.2.1) (x2 + 72) G_h.1, I_h.2))) rfl 183 rfl ?_
        refine k_aload_n C dX7_image_183 0 rfl rfl 184 rfl ?_
        refine k_get C dX7_image_184 0 rfl (ci := 7) rfl hin_X7_image_7 25 (by decide) (List.mem_of_getElem? (i := 11) rfl) rfl 187 rfl ?_
        refine k_iload_n C dX7_image_187 1 rfl rfl 188 rfl ?_
        refine k_iconst C dX7_image_188 189 rfl ?_
        obtain ⟨hi189, h⟩ := h
        refine k_bastore C dX7_image_189 16 2 rfl rfl (by decide) hi189 (by decide) ((wdM cI cJ cZ qh B_h P_h N_h L_h E_h V_h G_h D_h O_h Z_h R_h (aset (aset (aset I_h.1 (x2 + 70) B_h.1) (x2 + 71) B_h.2.1) (x2 + 72) G_h.1, aset I_h.2 x1 1))) rfl 190 rfl ?_
        refine k_iconst C dX7_image_190 191 rfl ?_
        exact k_iret C dX7_image_191 ⟨1, (aset (aset (aset I_h.1 (x2 + 70) B_h.1) (x2 + 71) B_h.2.1) (x2 + 72) G_h.1, aset I_h.2 x1 1), rfl, rfl, h⟩
  · have h := hf hc6; clear ht hf
    refine k_bipush C dX7_image_9 (by decide) 11 rfl ?_
    exact k_iret C dX7_image_11 ⟨(-2), I_h, rfl, rfl, h⟩
