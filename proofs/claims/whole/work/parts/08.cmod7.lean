/-! X7_restore -/
abbrev rm_X7_restore : Room := { frames := 1, cells := 0, slots := 0, locals := 22 }
theorem sg_X7_restore : yX7_restore.cls ≠ "java/lang/invoke/MethodHandle" ∧ yX7_restore.cls ≠ "java/lang/invoke/VarHandle" ∧ (parseMethodDescriptor yX7_restore.desc).map (fun d => d.parameters.length) = some 1 := by decide +kernel
theorem hin_X7_restore_7 : ∀ w ∈ wsX70, w ∈ wsX7_restore := fun _ h => List.mem_cons_of_mem _ (List.mem_append_right _ h)
def rp_X7_restore (cI cJ cZ : ClassId) (qh : Nat → Nat) (N_h : gMN) (L_h : gML) (E_h : gME) (V_h : gMV) (D_h : gMD) (O_h : gMO) (Z_h : gMZ) (R_h : gMR) (I_h : gMI) (Q : Int → gMB → gMP → gMG → Prop) : Option Value → va_W → Prop := fun v w1 => ∃ (r : Int) (B_h : gMB) (P_h : gMP) (G_h : gMG), v = some (.int (iI r)) ∧ w1 = (wdM cI cJ cZ qh B_h P_h N_h L_h E_h V_h G_h D_h O_h Z_h R_h I_h) ∧ Q r B_h P_h G_h
def wp_X7_restore_31 (I_h : gMI) (K_125 : Int → gMB → gMP → gMG → Prop)  (Q : Int → gMB → gMP → gMG → Prop) : Nat → Int → Int → gMB → gMP → gMG → Prop
  | 0, _, _, _, _, _ => False
  | n31 + 1, x2, x3, B_h, P_h, G_h =>
    rI x3 ∧ ((10 ≤ x3 → K_125 x2 B_h P_h G_h) ∧ (¬ (10 ≤ x3) → (0 ≤ (x2 + x3) ∧ (x2 + x3) < 160) ∧ (0 ≤ x3 ∧ x3 < 10) ∧ (0 ≤ ((x2 + 10) + x3) ∧ ((x2 + 10) + x3) < 160) ∧ (0 ≤ ((x2 + 20) + x3) ∧ ((x2 + 20) + x3) < 160) ∧ (0 ≤ ((x2 + 30) + x3) ∧ ((x2 + 30) + x3) < 160) ∧ (0 ≤ ((x2 + 40) + x3) ∧ ((x2 + 40) + x3) < 160) ∧ wp_X7_restore_31 I_h K_125 Q n31 x2 (x3 + 1) (B_h.1, B_h.2.1, aset B_h.2.2.1 x3 (I_h.1 (x2 + x3)), aset B_h.2.2.2.1 x3 (I_h.1 ((x2 + 10) + x3)), aset B_h.2.2.2.2 x3 (I_h.1 ((x2 + 20) + x3))) (aset P_h.1 x3 (I_h.1 ((x2 + 30) + x3)), aset P_h.2 x3 (I_h.1 ((x2 + 40) + x3))) G_h))
def wp_X7_restore_127 (I_h : gMI) (K_156 : Int → gMB → gMP → gMG → Prop)  (Q : Int → gMB → gMP → gMG → Prop) : Nat → Int → Int → gMB → gMP → gMG → Prop
  | 0, _, _, _, _, _ => False
  | n127 + 1, x2, x3, B_h, P_h, G_h =>
    rI x3 ∧ ((16 ≤ x3 → K_156 x2 B_h P_h G_h) ∧ (¬ (16 ≤ x3) → (0 ≤ ((x2 + 50) + x3) ∧ ((x2 + 50) + x3) < 160) ∧ (0 ≤ x3 ∧ x3 < 16) ∧ wp_X7_restore_127 I_h K_156 Q n127 x2 (x3 + 1) B_h P_h (G_h.1, aset G_h.2 x3 (I_h.1 ((x2 + 50) + x3)))))
def wp_X7_restore (B_h : gMB) (P_h : gMP) (G_h : gMG) (I_h : gMI) (x1 : Int) (Q : Int → gMB → gMP → gMG → Prop) : Prop :=
    wp_X7_in x1 0 1 (fun (r3 : Int) => ((¬ r3 = 0 → (0 ≤ x1 ∧ x1 < 2) ∧ rI (I_h.2 x1) ∧ ((¬ (I_h.2 x1) = 0 → ∃ m31, wp_X7_restore_31 I_h (fun (x2 : Int) (B_h : gMB) (P_h : gMP) (G_h : gMG) => ∃ m127, wp_X7_restore_127 I_h (fun (x2 : Int) (B_h : gMB) (P_h : gMP) (G_h : gMG) => (0 ≤ (x2 + 70) ∧ (x2 + 70) < 160) ∧ (0 ≤ (x2 + 71) ∧ (x2 + 71) < 160) ∧ (0 ≤ (x2 + 72) ∧ (x2 + 72) < 160) ∧ Q 1 (I_h.1 (x2 + 70), I_h.1 (x2 + 71), B_h.2.2.1, B_h.2.2.2.1, B_h.2.2.2.2) P_h (I_h.1 (x2 + 72), G_h.2)) Q m127 x2 0 B_h P_h G_h) Q m31 (80 * x1) 0 B_h P_h G_h) ∧ (¬ (¬ (I_h.2 x1) = 0) → Q (-3) B_h P_h G_h))) ∧ (¬ (¬ r3 = 0) → Q (-2) B_h P_h G_h)))
set_option maxHeartbeats 4000000 in
set_option maxRecDepth 20000 in
theorem w_X7_restore_31 {l : Launch} {D : va_G} {cI cJ cZ : ClassId} {A : Nat → Prop} {K : KT} {qh : Nat → Nat} {N_h : gMN} {L_h : gML} {E_h : gME} {V_h : gMV} {D_h : gMD} {O_h : gMO} {Z_h : gMZ} {R_h : gMR} {I_h : gMI} {Q : Int → gMB → gMP → gMG → Prop} {K_125 : Int → gMB → gMP → gMG → Prop} (C : KC cX7_restore yX7_restore.cls wsX7_restore rm_X7_restore 4 D (kT cI cJ cZ) A l false (rp_X7_restore cI cJ cZ qh N_h L_h E_h V_h D_h O_h Z_h R_h I_h Q) 0 0 K) : ∀ (n : Nat) (x2 : Int) (x3 : Int) (B_h : gMB) (P_h : gMP) (G_h : gMG), wp_X7_restore_31 I_h K_125 Q n x2 x3 B_h P_h G_h → (∀ (x2 : Int) (B_h : gMB) (P_h : gMP) (G_h : gMG), K_125 x2 B_h P_h G_h → K 0 0 125 [(0, .ref (qh 0)), (2, .int (iI x2))] [] ((wdM cI cJ cZ qh B_h P_h N_h L_h E_h V_h G_h D_h O_h Z_h R_h I_h))) → K 0 0 31 [(0, .ref (qh 0)), (2, .int (iI x2)), (3, .int (iI x3))] [] ((wdM cI cJ cZ qh B_h P_h N_h L_h E_h V_h G_h D_h O_h Z_h R_h I_h)) := by
  intro n
  induction n with
  | zero => intro x2 x3 B_h P_h G_h h; exact h.elim
  | succ n ih =>
    intro x2 x3 B_h P_h G_h h hK_125
    refine k_iload_n C dX7_restore_31 2 rfl rfl 32 rfl ?_
    refine k_bipush C dX7_restore_32 (by decide) 34 rfl ?_
    obtain ⟨hr34a, h⟩ := h
    obtain ⟨ht, hf⟩ := h
    refine k_icmp_ge C dX7_restore_34 ⟨hr34a, (by decide)⟩ 125 37 (by decide) rfl (fun hc34 => ?_) (fun hc34 => ?_)
    · have h := ht hc34; clear ht hf
      refine k_lv C [0, 1] [(0, .ref (qh 0)), (2, .int (iI x2))] rfl ?_
      exact hK_125 x2 B_h P_h G_h h
    · have h := hf hc34; clear ht hf
      refine k_aload_n C dX7_restore_37 0 rfl rfl 38 rfl ?_
      refine k_get C dX7_restore_38 0 rfl (ci := 7) rfl hin_X7_restore_7 2 (by decide) (List.mem_of_getElem? (i := 2) rfl) rfl 41 rfl ?_
      refine k_iload_n C dX7_restore_41 2 rfl rfl 42 rfl ?_
      refine k_aload_n C dX7_restore_42 0 rfl rfl 43 rfl ?_
      refine k_get C dX7_restore_43 0 rfl (ci := 7) rfl hin_X7_restore_7 24 (by decide) (List.mem_of_getElem? (i := 3) rfl) rfl 46 rfl ?_
      refine k_iload_n C dX7_restore_46 1 rfl rfl 47 rfl ?_
      refine k_iload_n C dX7_restore_47 2 rfl rfl 48 rfl ?_
      refine k_iadd C dX7_restore_48 49 rfl ?_
      obtain ⟨hi49, h⟩ := h
      refine k_iaload C dX7_restore_49 15 0 rfl rfl (by decide) hi49 50 rfl ?_
      obtain ⟨hi50, h⟩ := h
      refine k_iastore C dX7_restore_50 1 0 rfl rfl (by decide) hi50 ((wdM cI cJ cZ qh (B_h.1, B_h.2.1, aset B_h.2.2.1 x3 (I_h.1 (x2 + x3)), B_h.2.2.2.1, B_h.2.2.2.2) P_h N_h L_h E_h V_h G_h D_h O_h Z_h R_h I_h)) rfl 51 rfl ?_
      refine k_aload_n C dX7_restore_51 0 rfl rfl 52 rfl ?_
      refine k_get C dX7_restore_52 0 rfl (ci := 7) rfl hin_X7_restore_7 3 (by decide) (List.mem_of_getElem? (i := 4) rfl) rfl 55 rfl ?_
      refine k_iload_n C dX7_restore_55 2 rfl rfl 56 rfl ?_
      refine k_aload_n C dX7_restore_56 0 rfl rfl 57 rfl ?_
      refine k_get C dX7_restore_57 0 rfl (ci := 7) rfl hin_X7_restore_7 24 (by decide) (List.mem_of_getElem? (i := 3) rfl) rfl 60 rfl ?_
      refine k_iload_n C dX7_restore_60 1 rfl rfl 61 rfl ?_
      refine k_bipush C dX7_restore_61 (by decide) 63 rfl ?_
      refine k_iadd C dX7_restore_63 64 rfl ?_
      refine k_iload_n C dX7_restore_64 2 rfl rfl 65 rfl ?_
      refine k_iadd C dX7_restore_65 66 rfl ?_
      obtain ⟨hi66, h⟩ := h
      refine k_iaload C dX7_restore_66 15 0 rfl rfl (by decide) hi66 67 rfl ?_
      refine k_iastore C dX7_restore_67 2 0 rfl rfl (by decide) hi50 ((wdM cI cJ cZ qh (B_h.1, B_h.2.1, aset B_h.2.2.1 x3 (I_h.1 (x2 + x3)), aset B_h.2.2.2.1 x3 (I_h.1 ((x2 + 10) + x3)), B_h.2.2.2.2) P_h N_h L_h E_h V_h G_h D_h O_h Z_h R_h I_h)) rfl 68 rfl ?_
      refine k_aload_n C dX7_restore_68 0 rfl rfl 69 rfl ?_
      refine k_get C dX7_restore_69 0 rfl (ci := 7) rfl hin_X7_restore_7 4 (by decide) (List.mem_of_getElem? (i := 5) rfl) rfl 72 rfl ?_
      refine k_iload_n C dX7_restore_72 2 rfl rfl 73 rfl ?_
      refine k_aload_n C dX7_restore_73 0 rfl rfl 74 rfl ?_
      refine k_get C dX7_restore_74 0 rfl (ci := 7) rfl hin_X7_restore_7 24 (by decide) (List.mem_of_getElem? (i := 3) rfl) rfl 77 rfl ?_
      refine k_iload_n C dX7_restore_77 1 rfl rfl 78 rfl ?_
      refine k_bipush C dX7_restore_78 (by decide) 80 rfl ?_
      refine k_iadd C dX7_restore_80 81 rfl ?_
      refine k_iload_n C dX7_restore_81 2 rfl rfl 82 rfl ?_
      refine k_iadd C dX7_restore_82 83 rfl ?_
      obtain ⟨hi83, h⟩ := h
      refine k_iaload C dX7_restore_83 15 0 rfl rfl (by decide) hi83 84 rfl ?_
      refine k_iastore C dX7_restore_84 3 0 rfl rfl (by decide) hi50 ((wdM cI cJ cZ qh (B_h.1, B_h.2.1, aset B_h.2.2.1 x3 (I_h.1 (x2 + x3)), aset B_h.2.2.2.1 x3 (I_h.1 ((x2 + 10) + x3)), aset B_h.2.2.2.2 x3 (I_h.1 ((x2 + 20) + x3))) P_h N_h L_h E_h V_h G_h D_h O_h Z_h R_h I_h)) rfl 85 rfl ?_
      refine k_aload_n C dX7_restore_85 0 rfl rfl 86 rfl ?_
      refine k_get C dX7_restore_86 0 rfl (ci := 7) rfl hin_X7_restore_7 5 (by decide) (List.mem_of_getElem? (i := 6) rfl) rfl 89 rfl ?_
      refine k_iload_n C dX7_restore_89 2 rfl rfl 90 rfl ?_
      refine k_aload_n C dX7_restore_90 0 rfl rfl 91 rfl ?_
      refine k_get C dX7_restore_91 0 rfl (ci := 7) rfl hin_X7_restore_7 24 (by decide) (List.mem_of_getElem? (i := 3) rfl) rfl 94 rfl ?_
      refine k_iload_n C dX7_restore_94 1 rfl rfl 95 rfl ?_
      refine k_bipush C dX7_restore_95 (by decide) 97 rfl ?_
      refine k_iadd C dX7_restore_97 98 rfl ?_
      refine k_iload_n C dX7_restore_98 2 rfl rfl 99 rfl ?_
      refine k_iadd C dX7_restore_99 100 rfl ?_
      obtain ⟨hi100, h⟩ := h
      refine k_iaload C dX7_restore_100 15 0 rfl rfl (by decide) hi100 101 rfl ?_
      refine k_iastore C dX7_restore_101 4 0 rfl rfl (by decide) hi50 ((wdM cI cJ cZ qh (B_h.1, B_h.2.1, aset B_h.2.2.1 x3 (I_h.1 (x2 + x3)), aset B_h.2.2.2.1 x3 (I_h.1 ((x2 + 10) + x3)), aset B_h.2.2.2.2 x3 (I_h.1 ((x2 + 20) + x3))) (aset P_h.1 x3 (I_h.1 ((x2 + 30) + x3)), P_h.2) N_h L_h E_h V_h G_h D_h O_h Z_h R_h I_h)) rfl 102 rfl ?_
      refine k_aload_n C dX7_restore_102 0 rfl rfl 103 rfl ?_
      refine k_get C dX7_restore_103 0 rfl (ci := 7) rfl hin_X7_restore_7 6 (by decide) (List.mem_of_getElem? (i := 7) rfl) rfl 106 rfl ?_
      refine k_iload_n C dX7_restore_106 2 rfl rfl 107 rfl ?_
      refine k_aload_n C dX7_restore_107 0 rfl rfl 108 rfl ?_
      refine k_get C dX7_restore_108 0 rfl (ci := 7) rfl hin_X7_restore_7 24 (by decide) (List.mem_of_getElem? (i := 3) rfl) rfl 111 rfl ?_
      refine k_iload_n C dX7_restore_111 1 rfl rfl 112 rfl ?_
      refine k_bipush C dX7_restore_112 (by decide) 114 rfl ?_
      refine k_iadd C dX7_restore_114 115 rfl ?_
      refine k_iload_n C dX7_restore_115 2 rfl rfl 116 rfl ?_
      refine k_iadd C dX7_restore_116 117 rfl ?_
      obtain ⟨hi117, h⟩ := h
      refine k_iaload C dX7_restore_117 15 0 rfl rfl (by decide) hi117 118 rfl ?_
      refine k_iastore C dX7_restore_118 5 0 rfl rfl (by decide) hi50 ((wdM cI cJ cZ qh (B_h.1, B_h.2.1, aset B_h.2.2.1 x3 (I_h.1 (x2 + x3)), aset B_h.2.2.2.1 x3 (I_h.1 ((x2 + 10) + x3)), aset B_h.2.2.2.2 x3 (I_h.1 ((x2 + 20) + x3))) (aset P_h.1 x3 (I_h.1 ((x2 + 30) + x3)), aset P_h.2 x3 (I_h.1 ((x2 + 40) + x3))) N_h L_h E_h V_h G_h D_h O_h Z_h R_h I_h)) rfl 119 rfl ?_
      refine k_iinc (j := 2) C dX7_restore_119 rfl (by decide) [(3, .int (iI (x3 + 1))), (0, .ref (qh 0)), (2, .int (iI x2))] rfl 122 rfl ?_
      refine k_goto C dX7_restore_122 31 (by decide) ?_
      refine k_lv C [1, 2, 0] [(0, .ref (qh 0)), (2, .int (iI x2)), (3, .int (iI (x3 + 1)))] rfl ?_
      exact ih x2 (x3 + 1) (B_h.1, B_h.2.1, aset B_h.2.2.1 x3 (I_h.1 (x2 + x3)), aset B_h.2.2.2.1 x3 (I_h.1 ((x2 + 10) + x3)), aset B_h.2.2.2.2 x3 (I_h.1 ((x2 + 20) + x3))) (aset P_h.1 x3 (I_h.1 ((x2 + 30) + x3)), aset P_h.2 x3 (I_h.1 ((x2 + 40) + x3))) G_h h hK_125
set_option maxHeartbeats 4000000 in
set_option maxRecDepth 20000 in
theorem w_X7_restore_127 {l : Launch} {D : va_G} {cI cJ cZ : ClassId} {A : Nat → Prop} {K : KT} {qh : Nat → Nat} {N_h : gMN} {L_h : gML} {E_h : gME} {V_h : gMV} {D_h : gMD} {O_h : gMO} {Z_h : gMZ} {R_h : gMR} {I_h : gMI} {Q : Int → gMB → gMP → gMG → Prop} {K_156 : Int → gMB → gMP → gMG → Prop} (C : KC cX7_restore yX7_restore.cls wsX7_restore rm_X7_restore 4 D (kT cI cJ cZ) A l false (rp_X7_restore cI cJ cZ qh N_h L_h E_h V_h D_h O_h Z_h R_h I_h Q) 0 0 K) : ∀ (n : Nat) (x2 : Int) (x3 : Int) (B_h : gMB) (P_h : gMP) (G_h : gMG), wp_X7_restore_127 I_h K_156 Q n x2 x3 B_h P_h G_h → (∀ (x2 : Int) (B_h : gMB) (P_h : gMP) (G_h : gMG), K_156 x2 B_h P_h G_h → K 0 0 156 [(0, .ref (qh 0)), (2, .int (iI x2))] [] ((wdM cI cJ cZ qh B_h P_h N_h L_h E_h V_h G_h D_h O_h Z_h R_h I_h))) → K 0 0 127 [(0, .ref (qh 0)), (2, .int (iI x2)), (3, .int (iI x3))] [] ((wdM cI cJ cZ qh B_h P_h N_h L_h E_h V_h G_h D_h O_h Z_h R_h I_h)) := by
  intro n
  induction n with
  | zero => intro x2 x3 B_h P_h G_h h; exact h.elim
  | succ n ih =>
    intro x2 x3 B_h P_h G_h h hK_156
    refine k_iload_n C dX7_restore_127 2 rfl rfl 128 rfl ?_
    refine k_bipush C dX7_restore_128 (by decide) 130 rfl ?_
    obtain ⟨hr130a, h⟩ := h
    obtain ⟨ht, hf⟩ := h
    refine k_icmp_ge C dX7_restore_130 ⟨hr130a, (by decide)⟩ 156 133 (by decide) rfl (fun hc130 => ?_) (fun hc130 => ?_)
    · have h := ht hc130; clear ht hf
      refine k_lv C [0, 1] [(0, .ref (qh 0)), (2, .int (iI x2))] rfl ?_
      exact hK_156 x2 B_h P_h G_h h
    · have h := hf hc130; clear ht hf
      refine k_aload_n C dX7_restore_133 0 rfl rfl 134 rfl ?_
      refine k_get C dX7_restore_134 0 rfl (ci := 7) rfl hin_X7_restore_7 8 (by decide) (List.mem_of_getElem? (i := 8) rfl) rfl 137 rfl ?_
      refine k_iload_n C dX7_restore_137 2 rfl rfl 138 rfl ?_
      refine k_aload_n C dX7_restore_138 0 rfl rfl 139 rfl ?_
      refine k_get C dX7_restore_139 0 rfl (ci := 7) rfl hin_X7_restore_7 24 (by decide) (List.mem_of_getElem? (i := 3) rfl) rfl 142 rfl ?_
      refine k_iload_n C dX7_restore_142 1 rfl rfl 143 rfl ?_
      refine k_bipush C dX7_restore_143 (by decide) 145 rfl ?_
      refine k_iadd C dX7_restore_145 146 rfl ?_
      refine k_iload_n C dX7_restore_146 2 rfl rfl 147 rfl ?_
      refine k_iadd C dX7_restore_147 148 rfl ?_
      obtain ⟨hi148, h⟩ := h
      refine k_iaload C dX7_restore_148 15 0 rfl rfl (by decide) hi148 149 rfl ?_
      obtain ⟨hi149, h⟩ := h
      refine k_iastore C dX7_restore_149 6 0 rfl rfl (by decide) hi149 ((wdM cI cJ cZ qh B_h P_h N_h L_h E_h V_h (G_h.1, aset G_h.2 x3 (I_h.1 ((x2 + 50) + x3))) D_h O_h Z_h R_h I_h)) rfl 150 rfl ?_
      refine k_iinc (j := 2) C dX7_restore_150 rfl (by decide) [(3, .int (iI (x3 + 1))), (0, .ref (qh 0)), (2, .int (iI x2))] rfl 153 rfl ?_
      refine k_goto C dX7_restore_153 127 (by decide) ?_
      refine k_lv C [1, 2, 0] [(0, .ref (qh 0)), (2, .int (iI x2)), (3, .int (iI (x3 + 1)))] rfl ?_
      exact ih x2 (x3 + 1) B_h P_h (G_h.1, aset G_h.2 x3 (I_h.1 ((x2 + 50) + x3))) h hK_156
set_option maxHeartbeats 4000000 in
set_option maxRecDepth 20000 in
theorem c_X7_restore {l : Launch} {D : va_G} {cI cJ cZ : ClassId} (qh : Nat → Nat) (B_h : gMB) (P_h : gMP) (N_h : gMN) (L_h : gML) (E_h : gME) (V_h : gMV) (G_h : gMG) (D_h : gMD) (O_h : gMO) (Z_h : gMZ) (R_h : gMR) (I_h : gMI) (x1 : Int) (Q : Int → gMB → gMP → gMG → Prop) (h : wp_X7_restore B_h P_h G_h I_h x1 Q) : KM l D (kT cI cJ cZ) 0 0 yX7_restore wsX7_restore rm_X7_restore [.ref (qh 0), .int (iI x1)] ((wdM cI cJ cZ qh B_h P_h N_h L_h E_h V_h G_h D_h O_h Z_h R_h I_h)) (rp_X7_restore cI cJ cZ qh N_h L_h E_h V_h D_h O_h Z_h R_h I_h Q) := by
  refine KM_intro (lv := [(0, .ref (qh 0)), (1, .int (iI x1))]) false rfl (by decide) (Nat.le_of_ble_eq_true rfl) rfl (fun h => absurd h (by decide)) (fun v ws hq => by obtain ⟨r, B_h, P_h, G_h, rfl, rfl, _⟩ := hq; exact Or.inr (Or.inl ⟨rfl, _, rfl⟩)) (fun A K C => ?_)
  refine k_iload_n C dX7_restore_0 1 rfl rfl 1 rfl ?_
  refine k_iconst C dX7_restore_1 2 rfl ?_
  refine k_iconst C dX7_restore_2 3 rfl ?_
  have hM := c_X7_in (l := l) (D := D) (cI := cI) (cJ := cJ) (cZ := cZ) x1 0 1 _ h
  refine k_callS C dX7_restore_3 hM gX7_restore_X7_in rfl sg_X7_in rfl (Nat.le_of_ble_eq_true rfl) ⟨⟨rfl, rfl⟩, by decide, by decide⟩ ⟨Nat.le_refl 0, Nat.le_refl 0⟩ [] [0, 1, 2, 3, 4, 5, 6, 7, 8, 9, 10, 11, 12, 13, 14, 15, 16] rfl rfl rfl rfl (by decide) 0 0 ⟨rfl, rfl⟩ 6 rfl (fun v w1 hq3 => ?_)
  obtain ⟨r3, rfl, rfl, hb3, h⟩ := hq3
  refine k_perm C [0, 1, 2, 3, 4, 5, 6, 7, 8, 9, 10, 11, 12, 13, 14, 15, 16] [.int (iI r3)] ((wdM cI cJ cZ qh B_h P_h N_h L_h E_h V_h G_h D_h O_h Z_h R_h I_h)) rfl rfl rfl ?_
  obtain ⟨ht, hf⟩ := h
  refine k_if_ne C dX7_restore_6 (by rcases hb3 with rfl | rfl <;> decide) 12 9 (by decide) rfl (fun hc6 => ?_) (fun hc6 => ?_)
  · have h := ht hc6; clear ht hf
    refine k_aload_n C dX7_restore_12 0 rfl rfl 13 rfl ?_
    refine k_get C dX7_restore_13 0 rfl (ci := 7) rfl hin_X7_restore_7 25 (by decide) (List.mem_of_getElem? (i := 1) rfl) rfl 16 rfl ?_
    refine k_iload_n C dX7_restore_16 1 rfl rfl 17 rfl ?_
    obtain ⟨hi17, h⟩ := h
    refine k_baload C dX7_restore_17 16 2 rfl rfl (by decide) hi17 18 rfl ?_
    obtain ⟨hr18a, h⟩ := h
    obtain ⟨ht, hf⟩ := h
    refine k_if_ne C dX7_restore_18 hr18a 24 21 (by decide) rfl (fun hc18 => ?_) (fun hc18 => ?_)
    · have h := ht hc18; clear ht hf
      refine k_bipush C dX7_restore_24 (by decide) 26 rfl ?_
      refine k_iload_n C dX7_restore_26 1 rfl rfl 27 rfl ?_
      refine k_imul C dX7_restore_27 28 rfl ?_
      refine k_istore_n C dX7_restore_28 rfl (by decide) [(2, .int (iI (80 * x1))), (0, .ref (qh 0)), (1, .int (iI x1))] rfl 29 rfl ?_
      refine k_iconst C dX7_restore_29 30 rfl ?_
      refine k_istore_n C dX7_restore_30 rfl (by decide) [(3, .int (iI 0)), (2, .int (iI (80 * x1))), (0, .ref (qh 0)), (1, .int (iI x1))] rfl 31 rfl ?_
      refine k_lv C [2, 1, 0] [(0, .ref (qh 0)), (2, .int (iI (80 * x1))), (3, .int (iI 0))] rfl ?_
      obtain ⟨m31, h⟩ := h
      refine w_X7_restore_31 C m31 (80 * x1) 0 B_h P_h G_h h (fun x2 B_h P_h G_h h => ?_)
      · refine k_iconst C dX7_restore_125 126 rfl ?_
        refine k_istore_n C dX7_restore_126 rfl (by decide) [(3, .int (iI 0)), (0, .ref (qh 0)), (2, .int (iI x2))] rfl 127 rfl ?_
        refine k_lv C [1, 2, 0] [(0, .ref (qh 0)), (2, .int (iI x2)), (3, .int (iI 0))] rfl ?_
        obtain ⟨m127, h⟩ := h
        refine w_X7_restore_127 C m127 x2 0 B_h P_h G_h h (fun x2 B_h P_h G_h h => ?_)
        · refine k_aload_n C dX7_restore_156 0 rfl rfl 157 rfl ?_
          refine k_aload_n C dX7_restore_157 0 rfl rfl 158 rfl ?_
          refine k_get C dX7_restore_158 0 rfl (ci := 7) rfl hin_X7_restore_7 24 (by decide) (List.mem_of_getElem? (i := 3) rfl) rfl 161 rfl ?_
          refine k_iload_n C dX7_restore_161 1 rfl rfl 162 rfl ?_
          refine k_bipush C dX7_restore_162 (by decide) 164 rfl ?_
          refine k_iadd C dX7_restore_164 165 rfl ?_
          obtain ⟨hi165, h⟩ := h
          refine k_iaload C dX7_restore_165 15 0 rfl rfl (by decide) hi165 166 rfl ?_
          refine k_put C dX7_restore_166 0 rfl (ci := 7) rfl hin_X7_restore_7 tyX7_ok nmX7 0 (by decide) (List.mem_of_getElem? (i := 9) rfl) rfl rfl rfl (Nat.le_of_ble_eq_true rfl) ((wdM cI cJ cZ qh (I_h.1 (x2 + 70), B_h.2.1, B_h.2.2.1, B_h.2.2.2.1, B_h.2.2.2.2) P_h N_h L_h E_h V_h G_h D_h O_h Z_h R_h I_h)) rfl 169 rfl ?_
          refine k_aload_n C dX7_restore_169 0 rfl rfl 170 rfl ?_
          refine k_aload_n C dX7_restore_170 0 rfl rfl 171 rfl ?_
          refine k_get C dX7_restore_171 0 rfl (ci := 7) rfl hin_X7_restore_7 24 (by decide) (List.mem_of_getElem? (i := 3) rfl) rfl 174 rfl ?_
          refine k_iload_n C dX7_restore_174 1 rfl rfl 175 rfl ?_
          refine k_bipush C dX7_restore_175 (by decide) 177 rfl ?_
          refine k_iadd C dX7_restore_177 178 rfl ?_
          obtain ⟨hi178, h⟩ := h
          refine k_iaload C dX7_restore_178 15 0 rfl rfl (by decide) hi178 179 rfl ?_
          refine k_put C dX7_restore_179 0 rfl (ci := 7) rfl hin_X7_restore_7 tyX7_ok nmX7 1 (by decide) (List.mem_of_getElem? (i := 10) rfl) rfl rfl rfl (Nat.le_of_ble_eq_true rfl) ((wdM cI cJ cZ qh (I_h.1 (x2 + 70), I_h.1 (x2 + 71), B_h.2.2.1, B_h.2.2.2.1, B_h.2.2.2.2) P_h N_h L_h E_h V_h G_h D_h O_h Z_h R_h I_h)) rfl 182 rfl ?_
          refine k_aload_n C dX7_restore_182 0 rfl rfl 183 rfl ?_
          refine k_aload_n C dX7_restore_183 0 rfl rfl 184 rfl ?_
          refine k_get C dX7_restore_184 0 rfl (ci := 7) rfl hin_X7_restore_7 24 (by decide) (List.mem_of_getElem? (i := 3) rfl) rfl 187 rfl ?_
          refine k_iload_n C dX7_restore_187 1 rfl rfl 188 rfl ?_
          refine k_bipush C dX7_restore_188 (by decide) 190 rfl ?_
          refine k_iadd C dX7_restore_190 191 rfl ?_
          obtain ⟨hi191, h⟩ := h
          refine k_iaload C dX7_restore_191 15 0 rfl rfl (by decide) hi191 192 rfl ?_
          refine k_put C dX7_restore_192 0 rfl (ci := 7) rfl hin_X7_restore_7 tyX7_ok nmX7 7 (by decide) (List.mem_of_getElem? (i := 11) rfl) rfl rfl rfl (Nat.le_of_ble_eq_true rfl) ((wdM cI cJ cZ qh (I_h.1 (x2 + 70), I_h.1 (x2 + 71), B_h.2.2.1, B_h.2.2.2.1, B_h.2.2.2.2) P_h N_h L_h E_h V_h (I_h.1 (x2 + 72), G_h.2) D_h O_h Z_h R_h I_h)) rfl 195 rfl ?_
          refine k_iconst C dX7_restore_195 196 rfl ?_
          exact k_iret C dX7_restore_196 ⟨1, (I_h.1 (x2 + 70), I_h.1 (x2 + 71), B_h.2.2.1, B_h.2.2.2.1, B_h.2.2.2.2), P_h, (I_h.1 (x2 + 72), G_h.2), rfl, rfl, h⟩
    · have h := hf hc18; clear ht hf
      refine k_bipush C dX7_restore_21 (by decide) 23 rfl ?_
      exact k_iret C dX7_restore_23 ⟨(-3), B_h, P_h, G_h, rfl, rfl, h⟩
  · have h := hf hc6; clear ht hf
    refine k_bipush C dX7_restore_9 (by decide) 11 rfl ?_
    exact k_iret C dX7_restore_11 ⟨(-2), B_h, P_h, G_h, rfl, rfl, h⟩

/-! X7_told -/
abbrev rm_X7_told : Room := { frames := 1, cells := 0, slots := 0, locals := 22 }
theorem sg_X7_told : yX7_told.cls ≠ "java/lang/invoke/MethodHandle" ∧ yX7_told.cls ≠ "java/lang/invoke/VarHandle" ∧ (parseMethodDescriptor yX7_told.desc).map (fun d => d.parameters.length) = some 1 := by decide +kernel
theorem hin_X7_told_7 : ∀ w ∈ wsX70, w ∈ wsX7_told := fun _ h => List.mem_cons_of_mem _ (List.mem_append_right _ h)
def rp_X7_told (cI cJ cZ : ClassId) (qh : Nat → Nat) (B_h : gMB) (P_h : gMP) (N_h : gMN) (L_h : gML) (E_h : gME) (V_h : gMV) (G_h : gMG) (D_h : gMD) (O_h : gMO) (Z_h : gMZ) (R_h : gMR) (I_h : gMI) (Q : Int → Prop) : Option Value → va_W → Prop := fun v w1 => ∃ (r : Int), v = some (.int (iI r)) ∧ w1 = (wdM cI cJ cZ qh B_h P_h N_h L_h E_h V_h G_h D_h O_h Z_h R_h I_h) ∧ Q r
def wp_X7_told_106 (P_h : gMP) (K_137 : Int → Int → Prop)  (Q : Int → Prop) : Nat → Int → Int → Int → Prop
  | 0, _, _, _ => False
  | n106 + 1, x1, x2, x3 =>
    rI x3 ∧ ((10 ≤ x3 → K_137 x1 x2) ∧ (¬ (10 ≤ x3) → (0 ≤ x3 ∧ x3 < 10) ∧ rI (P_h.1 x3) ∧ (((P_h.1 x3) < 0 → wp_X7_told_106 P_h K_137 Q n106 x1 (ior x2 0) (x3 + 1)) ∧ (¬ ((P_h.1 x3) < 0) → wp_X7_told_106 P_h K_137 Q n106 x1 (ior x2 (ishl 1 x3)) (x3 + 1)))))
def wp_X7_told (B_h : gMB) (P_h : gMP) (G_h : gMG) (D_h : gMD) (x1 : Int) (Q : Int → Prop) : Prop :=
    rI x1 ∧ ((x1 < 10 → ∃ m106, wp_X7_told_106 P_h (fun (x1 : Int) (x2 : Int) => rI x1 ∧ ((x1 = 0 → Q D_h.1) ∧ (x1 = 1 → Q B_h.1) ∧ (x1 = 2 → Q B_h.2.1) ∧ (x1 = 3 → Q x2) ∧ (¬ x1 = 0 ∧ ¬ x1 = 1 ∧ ¬ x1 = 2 ∧ ¬ x1 = 3 → ((¬ x1 = 4 → Q (-2)) ∧ (¬ (¬ x1 = 4) → Q G_h.1))))) Q m106 x1 0 0) ∧ (¬ (x1 < 10) → wp_X7_in ((x1.tdiv 10) - 1) 0 9 (fun (r17 : Int) => ((r17 = 0 → Q (-2)) ∧ (¬ (r17 = 0) → wp_X7_has B_h.2.1 ((x1.tdiv 10) - 1) (fun (r28 : Int) => ((¬ r28 = 0 → rI (x1.tmod 10) ∧ (((x1.tmod 10) = 0 → (0 ≤ ((x1.tdiv 10) - 1) ∧ ((x1.tdiv 10) - 1) < 10) ∧ Q (B_h.2.2.1 ((x1.tdiv 10) - 1))) ∧ ((x1.tmod 10) = 1 → (0 ≤ ((x1.tdiv 10) - 1) ∧ ((x1.tdiv 10) - 1) < 10) ∧ Q (B_h.2.2.2.1 ((x1.tdiv 10) - 1))) ∧ (¬ (x1.tmod 10) = 0 ∧ ¬ (x1.tmod 10) = 1 → ((¬ (x1.tmod 10) = 2 → Q (-2)) ∧ (¬ (¬ (x1.tmod 10) = 2) → (0 ≤ ((x1.tdiv 10) - 1) ∧ ((x1.tdiv 10) - 1) < 10) ∧ Q (B_h.2.2.2.2 ((x1.tdiv 10) - 1))))))) ∧ (¬ (¬ r28 = 0) → Q (-2)))))))))
set_option maxHeartbeats 4000000 in
set_option maxRecDepth 20000 in
theorem w_X7_told_106 {l : Launch} {D : va_G} {cI cJ cZ : ClassId} {A : Nat → Prop} {K : KT} {qh : Nat → Nat} {B_h : gMB} {P_h : gMP} {N_h : gMN} {L_h : gML} {E_h : gME} {V_h : gMV} {G_h : gMG} {D_h : gMD} {O_h : gMO} {Z_h : gMZ} {R_h : gMR} {I_h : gMI} {Q : Int → Prop} {K_137 : Int → Int → Prop} (C : KC cX7_told yX7_told.cls wsX7_told rm_X7_told 4 D (kT cI cJ cZ) A l false (rp_X7_told cI cJ cZ qh B_h P_h N_h L_h E_h V_h G_h D_h O_h Z_h R_h I_h Q) 0 0 K) : ∀ (n : Nat) (x1 : Int) (x2 : Int) (x3 : Int), wp_X7_told_106 P_h K_137 Q n x1 x2 x3 → (∀ (x1 : Int) (x2 : Int), K_137 x1 x2 → K 0 0 137 [(0, .ref (qh 0)), (1, .int (iI x1)), (2, .int (iI x2))] [] ((wdM cI cJ cZ qh B_h P_h N_h L_h E_h V_h G_h D_h O_h Z_h R_h I_h))) → K 0 0 106 [(0, .ref (qh 0)), (1, .int (iI x1)), (2, .int (iI x2)), (3, .int (iI x3))] [] ((wdM cI cJ cZ qh B_h P_h N_h L_h E_h V_h G_h D_h O_h Z_h R_h I_h)) := by
  intro n
  induction n with
  | zero => intro x1 x2 x3 h; exact h.elim
  | succ n ih =>
    intro x1 x2 x3 h hK_137
    refine k_iload_n C dX7_told_106 3 rfl rfl 107 rfl ?_
    refine k_bipush C dX7_told_107 (by decide) 109 rfl ?_
    obtain ⟨hr109a, h⟩ := h
    obtain ⟨ht, hf⟩ := h
    refine k_icmp_ge C dX7_told_109 ⟨hr109a, (by decide)⟩ 137 112 (by decide) rfl (fun hc109 => ?_) (fun hc109 => ?_)
    · have h := ht hc109; clear ht hf
      refine k_lv C [0, 1, 2] [(0, .ref (qh 0)), (1, .int (iI x1)), (2, .int (iI x2))] rfl ?_
      exact hK_137 x1 x2 h
    · have h := hf hc109; clear ht hf
      refine k_iload_n C dX7_told_112 2 rfl rfl 113 rfl ?_
      refine k_aload_n C dX7_told_113 0 rfl rfl 114 rfl ?_
      refine k_get C dX7_told_114 0 rfl (ci := 7) rfl hin_X7_told_7 5 (by decide) (List.mem_of_getElem? (i := 5) rfl) rfl 117 rfl ?_
      refine k_iload_n C dX7_told_117 3 rfl rfl 118 rfl ?_
      obtain ⟨hi118, h⟩ := h
      refine k_iaload C dX7_told_118 4 0 rfl rfl (by decide) hi118 119 rfl ?_
      obtain ⟨hr119a, h⟩ := h
      obtain ⟨ht, hf⟩ := h
      refine k_if_lt C dX7_told_119 hr119a 128 122 (by decide) rfl (fun hc119 => ?_) (fun hc119 => ?_)
      · have h := ht hc119; clear ht hf
        refine k_iconst C dX7_told_128 129 rfl ?_
        refine k_ior C dX7_told_129 130 rfl ?_
        refine k_istore_n C dX7_told_130 rfl (by decide) [(2, .int (iI (ior x2 0))), (0, .ref (qh 0)), (1, .int (iI x1)), (3, .int (iI x3))] rfl 131 rfl ?_
        refine k_iinc (j := 3) C dX7_told_131 rfl (by decide) [(3, .int (iI (x3 + 1))), (2, .int (iI (ior x2 0))), (0, .ref (qh 0)), (1, .int (iI x1))] rfl 134 rfl ?_
        refine k_goto C dX7_told_134 106 (by decide) ?_
        refine k_lv C [2, 3, 1, 0] [(0, .ref (qh 0)), (1, .int (iI x1)), (2, .int (iI (ior x2 0))), (3, .int (iI (x3 + 1)))] rfl ?_
        exact ih x1 (ior x2 0) (x3 + 1) h hK_137
      · have h := hf hc119; clear ht hf
        refine k_iconst C dX7_told_122 123 rfl ?_
        refine k_iload_n C dX7_told_123 3 rfl rfl 124 rfl ?_
        refine k_ishl C dX7_told_124 125 rfl ?_
        refine k_goto C dX7_told_125 129 (by decide) ?_
        refine k_ior C dX7_told_129 130 rfl ?_
        refine k_istore_n C dX7_told_130 rfl (by decide) [(2, .int (iI (ior x2 (ishl 1 x3)))), (0, .ref (qh 0)), (1, .int (iI x1)), (3, .int (iI x3))] rfl 131 rfl ?_
        refine k_iinc (j := 3) C dX7_told_131 rfl (by decide) [(3, .int (iI (x3 + 1))), (2, .int (iI (ior x2 (ishl 1 x3)))), (0, .ref (qh 0)), (1, .int (iI x1))] rfl 134 rfl ?_
        refine k_goto C dX7_told_134 106 (by decide) ?_
        refine k_lv C [2, 3, 1, 0] [(0, .ref (qh 0)), (1, .int (iI x1)), (2, .int (iI (ior x2 (ishl 1 x3)))), (3, .int (iI (x3 + 1)))] rfl ?_
        exact ih x1 (ior x2 (ishl 1 x3)) (x3 + 1) h hK_137
set_option maxHeartbeats 4000000 in
set_option maxRecDepth 20000 in
theorem c_X7_told {l : Launch} {D : va_G} {cI cJ cZ : ClassId} (qh : Nat → Nat) (B_h : gMB) (P_h : gMP) (N_h : gMN) (L_h : gML) (E_h : gME) (V_h : gMV) (G_h : gMG) (D_h : gMD) (O_h : gMO) (Z_h : gMZ) (R_h : gMR) (I_h : gMI) (x1 : Int) (Q : Int → Prop) (h : wp_X7_told B_h P_h G_h D_h x1 Q) : KM l D (kT cI cJ cZ) 0 0 yX7_told wsX7_told rm_X7_told [.ref (qh 0), .int (iI x1)] ((wdM cI cJ cZ qh B_h P_h N_h L_h E_h V_h G_h D_h O_h Z_h R_h I_h)) (rp_X7_told cI cJ cZ qh B_h P_h N_h L_h E_h V_h G_h D_h O_h Z_h R_h I_h Q) := by
  refine KM_intro (lv := [(0, .ref (qh 0)), (1, .int (iI x1))]) false rfl (by decide) (Nat.le_of_ble_eq_true rfl) rfl (fun h => absurd h (by decide)) (fun v ws hq => by obtain ⟨r, rfl, rfl, _⟩ := hq; exact Or.inr (Or.inl ⟨rfl, _, rfl⟩)) (fun A K C => ?_)
  refine k_iload_n C dX7_told_0 1 rfl rfl 1 rfl ?_
  refine k_bipush C dX7_told_1 (by decide) 3 rfl ?_
  obtain ⟨hr3a, h⟩ := h
  obtain ⟨ht, hf⟩ := h
  refine k_icmp_lt C dX7_told_3 ⟨hr3a, (by decide)⟩ 102 6 (by decide) rfl (fun hc3 => ?_) (fun hc3 => ?_)
  · have h := ht hc3; clear ht hf
    refine k_iconst C dX7_told_102 103 rfl ?_
    refine k_istore_n C dX7_told_103 rfl (by decide) [(2, .int (iI 0)), (0, .ref (qh 0)), (1, .int (iI x1))] rfl 104 rfl ?_
    refine k_iconst C dX7_told_104 105 rfl ?_
    refine k_istore_n C dX7_told_105 rfl (by decide) [(3, .int (iI 0)), (2, .int (iI 0)), (0, .ref (qh 0)), (1, .int (iI x1))] rfl 106 rfl ?_
    refine k_lv C [2, 3, 1, 0] [(0, .ref (qh 0)), (1, .int (iI x1)), (2, .int (iI 0)), (3, .int (iI 0))] rfl ?_
    obtain ⟨m106, h⟩ := h
    refine w_X7_told_106 C m106 x1 0 0 h (fun x1 x2 h => ?_)
    · refine k_iload_n C dX7_told_137 1 rfl rfl 138 rfl ?_
      obtain ⟨hr138a, h⟩ := h
      obtain ⟨hs138_0, hs138_1, hs138_2, hs138_3, hs138_d⟩ := h
      by_cases e138_0 : x1 = 0
      · have h := hs138_0 e138_0; clear hs138_0 hs138_1 hs138_2 hs138_3 hs138_d
        refine k_tsIn C dX7_told_138 e138_0 (by decide) (by decide) (by decide) rfl 168 (by decide) ?_
        refine k_aload_n C dX7_told_168 0 rfl rfl 169 rfl ?_
        refine k_get C dX7_told_169 0 rfl (ci := 7) rfl hin_X7_told_7 9 (by decide) (List.mem_of_getElem? (i := 6) rfl) rfl 172 rfl ?_
        exact k_iret C dX7_told_172 ⟨D_h.1, rfl, rfl, h⟩
      by_cases e138_1 : x1 = 1
      · have h := hs138_1 e138_1; clear hs138_0 hs138_1 hs138_2 hs138_3 hs138_d
        refine k_tsIn C dX7_told_138 e138_1 (by decide) (by decide) (by decide) rfl 173 (by decide) ?_
        refine k_aload_n C dX7_told_173 0 rfl rfl 174 rfl ?_
        refine k_get C dX7_told_174 0 rfl (ci := 7) rfl hin_X7_told_7 0 (by decide) (List.mem_of_getElem? (i := 7) rfl) rfl 177 rfl ?_
        exact k_iret C dX7_told_177 ⟨B_h.1, rfl, rfl, h⟩
      by_cases e138_2 : x1 = 2
      · have h := hs138_2 e138_2; clear hs138_0 hs138_1 hs138_2 hs138_3 hs138_d
        refine k_tsIn C dX7_told_138 e138_2 (by decide) (by decide) (by decide) rfl 178 (by decide) ?_
        refine k_aload_n C dX7_told_178 0 rfl rfl 179 rfl ?_
        refine k_get C dX7_told_179 0 rfl (ci := 7) rfl hin_X7_told_7 1 (by decide) (List.mem_of_getElem? (i := 1) rfl) rfl 182 rfl ?_
        exact k_iret C dX7_told_182 ⟨B_h.2.1, rfl, rfl, h⟩
      by_cases e138_3 : x1 = 3
      · have h := hs138_3 e138_3; clear hs138_0 hs138_1 hs138_2 hs138_3 hs138_d
        refine k_tsIn C dX7_told_138 e138_3 (by decide) (by decide) (by decide) rfl 183 (by decide) ?_
        refine k_iload_n C dX7_told_183 2 rfl rfl 184 rfl ?_
        exact k_iret C dX7_told_184 ⟨x2, rfl, rfl, h⟩
      have h := hs138_d ⟨e138_0, e138_1, e138_2, e138_3⟩; clear hs138_0 hs138_1 hs138_2 hs138_3 hs138_d
      refine k_tsOut C dX7_told_138 hr138a (by omega) 185 (by decide) ?_
      refine k_iload_n C dX7_told_185 1 rfl rfl 186 rfl ?_
      refine k_iconst C dX7_told_186 187 rfl ?_
      obtain ⟨ht, hf⟩ := h
      refine k_icmp_ne C dX7_told_187 ⟨hr138a, (by decide)⟩ 197 190 (by decide) rfl (fun hc187 => ?_) (fun hc187 => ?_)
      · have h := ht hc187; clear ht hf
        refine k_bipush C dX7_told_197 (by decide) 199 rfl ?_
        exact k_iret C dX7_told_199 ⟨(-2), rfl, rfl, h⟩
      · have h := hf hc187; clear ht hf
        refine k_aload_n C dX7_told_190 0 rfl rfl 191 rfl ?_
        refine k_get C dX7_told_191 0 rfl (ci := 7) rfl hin_X7_told_7 7 (by decide) (List.mem_of_getElem? (i := 8) rfl) rfl 194 rfl ?_
        refine k_goto C dX7_told_194 199 (by decide) ?_
        exact k_iret C dX7_told_199 ⟨G_h.1, rfl, rfl, h⟩
  · have h := hf hc3; clear ht hf
    refine k_iload_n C dX7_told_6 1 rfl rfl 7 rfl ?_
    refine k_bipush C dX7_told_7 (by decide) 9 rfl ?_
    refine k_idiv C dX7_told_9 ⟨hr3a, (by decide), (by decide)⟩ 10 rfl ?_
    refine k_iconst C dX7_told_10 11 rfl ?_
    refine k_isub C dX7_told_11 12 rfl ?_
    refine k_istore_n C dX7_told_12 rfl (by decide) [(2, .int (iI ((x1.tdiv 10) - 1))), (0, .ref (qh 0)), (1, .int (iI x1))] rfl 13 rfl ?_
    refine k_iload_n C dX7_told_13 0 rfl rfl 14 rfl ?_
    refine k_iconst C dX7_told_14 15 rfl ?_
    refine k_bipush C dX7_told_15 (by decide) 17 rfl ?_
    have hM := c_X7_in (l := l) (D := D) (cI := cI) (cJ := cJ) (cZ := cZ) ((x1.tdiv 10) - 1) 0 9 _ h
    refine k_callS C dX7_told_17 hM gX7_told_X7_in rfl sg_X7_in rfl (Nat.le_of_ble_eq_true rfl) ⟨⟨rfl, rfl⟩, by decide, by decide⟩ ⟨Nat.le_refl 0, Nat.le_refl 0⟩ [] [0, 1, 2, 3, 4, 5, 6, 7, 8, 9, 10, 11, 12, 13, 14, 15, 16] rfl rfl rfl rfl (by decide) 0 0 ⟨rfl, rfl⟩ 20 rfl (fun v w1 hq17 => ?_)
    obtain ⟨r17, rfl, rfl, hb17, h⟩ := hq17
    refine k_perm C [0, 1, 2, 3, 4, 5, 6, 7, 8, 9, 10, 11, 12, 13, 14, 15, 16] [.int (iI r17)] ((wdM cI cJ cZ qh B_h P_h N_h L_h E_h V_h G_h D_h O_h Z_h R_h I_h)) rfl rfl rfl ?_
    obtain ⟨ht, hf⟩ := h
    refine k_if_eq C dX7_told_20 (by rcases hb17 with rfl | rfl <;> decide) 34 23 (by decide) rfl (fun hc20 => ?_) (fun hc20 => ?_)
    · have h := ht hc20; clear ht hf
      refine k_bipush C dX7_told_34 (by decide) 36 rfl ?_
      exact k_iret C dX7_told_36 ⟨(-2), rfl, rfl, h⟩
    · have h := hf hc20; clear ht hf
      refine k_aload_n C dX7_told_23 1 rfl rfl 24 rfl ?_
      refine k_get C dX7_told_24 0 rfl (ci := 7) rfl hin_X7_told_7 1 (by decide) (List.mem_of_getElem? (i := 1) rfl) rfl 27 rfl ?_
      refine k_iload_n C dX7_told_27 0 rfl rfl 28 rfl ?_
      have hM := c_X7_has (l := l) (D := D) (cI := cI) (cJ := cJ) (cZ := cZ) B_h.2.1 ((x1.tdiv 10) - 1) _ h
      refine k_callS C dX7_told_28 hM gX7_told_X7_has rfl sg_X7_has rfl (Nat.le_of_ble_eq_true rfl) ⟨⟨rfl, rfl⟩, by decide, by decide⟩ ⟨Nat.le_refl 0, Nat.le_refl 0⟩ [] [0, 1, 2, 3, 4, 5, 6, 7, 8, 9, 10, 11, 12, 13, 14, 15, 16] rfl rfl rfl rfl (by decide) 0 0 ⟨rfl, rfl⟩ 31 rfl (fun v w1 hq28 => ?_)
      obtain ⟨r28, rfl, rfl, hb28, h⟩ := hq28
      refine k_perm C [0, 1, 2, 3, 4, 5, 6, 7, 8, 9, 10, 11, 12, 13, 14, 15, 16] [.int (iI r28)] ((wdM cI cJ cZ qh B_h P_h N_h L_h E_h V_h G_h D_h O_h Z_h R_h I_h)) rfl rfl rfl ?_
      obtain ⟨ht, hf⟩ := h
      refine k_if_ne C dX7_told_31 (by rcases hb28 with rfl | rfl <;> decide) 37 34 (by decide) rfl (fun hc31 => ?_) (fun hc31 => ?_)
      · have h := ht hc31; clear ht hf
        refine k_iload_n C dX7_told_37 2 rfl rfl 38 rfl ?_
        refine k_bipush C dX7_told_38 (by decide) 40 rfl ?_
        refine k_irem C dX7_told_40 ⟨hr3a, (by decide), (by decide)⟩ 41 rfl ?_
        obtain ⟨hr41a, h⟩ := h
        obtain ⟨hs41_0, hs41_1, hs41_d⟩ := h
        by_cases e41_0 : (x1.tmod 10) = 0
        · have h := hs41_0 e41_0; clear hs41_0 hs41_1 hs41_d
          refine k_lsIn C dX7_told_41 e41_0 (by decide) (by decide) rfl 68 (by decide) ?_
          refine k_aload_n C dX7_told_68 1 rfl rfl 69 rfl ?_
          refine k_get C dX7_told_69 0 rfl (ci := 7) rfl hin_X7_told_7 2 (by decide) (List.mem_of_getElem? (i := 2) rfl) rfl 72 rfl ?_
          refine k_iload_n C dX7_told_72 0 rfl rfl 73 rfl ?_
          obtain ⟨hi73, h⟩ := h
          refine k_iaload C dX7_told_73 1 0 rfl rfl (by decide) hi73 74 rfl ?_
          exact k_iret C dX7_told_74 ⟨B_h.2.2.1 ((x1.tdiv 10) - 1), rfl, rfl, h⟩
        by_cases e41_1 : (x1.tmod 10) = 1
        · have h := hs41_1 e41_1; clear hs41_0 hs41_1 hs41_d
          refine k_lsIn C dX7_told_41 e41_1 (by decide) (by decide) rfl 75 (by decide) ?_
          refine k_aload_n C dX7_told_75 1 rfl rfl 76 rfl ?_
          refine k_get C dX7_told_76 0 rfl (ci := 7) rfl hin_X7_told_7 3 (by decide) (List.mem_of_getElem? (i := 3) rfl) rfl 79 rfl ?_
          refine k_iload_n C dX7_told_79 0 rfl rfl 80 rfl ?_
          obtain ⟨hi80, h⟩ := h
          refine k_iaload C dX7_told_80 2 0 rfl rfl (by decide) hi80 81 rfl ?_
          exact k_iret C dX7_told_81 ⟨B_h.2.2.2.1 ((x1.tdiv 10) - 1), rfl, rfl, h⟩
        have h := hs41_d ⟨e41_0, e41_1⟩; clear hs41_0 hs41_1 hs41_d
        refine k_lsOut (off := 41) C dX7_told_41 hr41a (by decide) (by simp [Op.lookupswitch.offset, Ne.symm e41_0, Ne.symm e41_1]) 82 (by decide) ?_
        refine k_iload_n C dX7_told_82 2 rfl rfl 83 rfl ?_
        refine k_bipush C dX7_told_83 (by decide) 85 rfl ?_
        refine k_irem C dX7_told_85 ⟨hr3a, (by decide), (by decide)⟩ 86 rfl ?_
        refine k_iconst C dX7_told_86 87 rfl ?_
        obtain ⟨ht, hf⟩ := h
        refine k_icmp_ne C dX7_told_87 ⟨hr41a, (by decide)⟩ 99 90 (by decide) rfl (fun hc87 => ?_) (fun hc87 => ?_)
        · have h := ht hc87; clear ht hf
          refine k_bipush C dX7_told_99 (by decide) 101 rfl ?_
          exact k_iret C dX7_told_101 ⟨(-2), rfl, rfl, h⟩
        · have h := hf hc87; clear ht hf
          refine k_aload_n C dX7_told_90 1 rfl rfl 91 rfl ?_
          refine k_get C dX7_told_91 0 rfl (ci := 7) rfl hin_X7_told_7 4 (by decide) (List.mem_of_getElem? (i := 4) rfl) rfl 94 rfl ?_
          refine k_iload_n C dX7_told_94 0 rfl rfl 95 rfl ?_
          obtain ⟨hi95, h⟩ := h
          refine k_iaload C dX7_told_95 3 0 rfl rfl (by decide) hi95 96 rfl ?_
          refine k_goto C dX7_told_96 101 (by decide) ?_
          exact k_iret C dX7_told_101 ⟨B_h.2.2.2.2 ((x1.tdiv 10) - 1), rfl, rfl, h⟩
      · have h := hf hc31; clear ht hf
        refine k_bipush C dX7_told_34 (by decide) 36 rfl ?_
        exact k_iret C dX7_told_36 ⟨(-2), rfl, rfl, h⟩
