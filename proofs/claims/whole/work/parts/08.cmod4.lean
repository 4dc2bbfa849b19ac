/-! X7_orders -/
abbrev rm_X7_orders : Room := { frames := 6, cells := 0, slots := 0, locals := 141 }
theorem sg_X7_orders : yX7_orders.cls ≠ "java/lang/invoke/MethodHandle" ∧ yX7_orders.cls ≠ "java/lang/invoke/VarHandle" ∧ (parseMethodDescriptor yX7_orders.desc).map (fun d => d.parameters.length) = some 1 := by decide +kernel
theorem hin_X7_orders_7 : ∀ w ∈ wsX70, w ∈ wsX7_orders := fun _ h => List.mem_cons_of_mem _ (List.mem_append_right _ h)
def rp_X7_orders (cI cJ cZ : ClassId) (qh : Nat → Nat) (B_h : gMB) (P_h : gMP) (E_h : gME) (V_h : gMV) (G_h : gMG) (D_h : gMD) (Z_h : gMZ) (R_h : gMR) (I_h : gMI) (Q : Int → gMN → gML → gMO → Prop) : Option Value → va_W → Prop := fun v w1 => ∃ (r : Int) (N_h : gMN) (L_h : gML) (O_h : gMO), v = some (.int (iI r)) ∧ w1 = (wdM cI cJ cZ qh B_h P_h N_h L_h E_h V_h G_h D_h O_h Z_h R_h I_h) ∧ Q r N_h L_h O_h
def wp_X7_orders_34 (K_51 : Int → Int → Int → gMN → gML → gMO → Prop)  (Q : Int → gMN → gML → gMO → Prop) : Nat → Int → Int → Int → Int → gMN → gML → gMO → Prop
  | 0, _, _, _, _, _, _, _ => False
  | n34 + 1, x1, x2, x3, x4, N_h, L_h, O_h =>
    rI x4 ∧ rI x2 ∧ ((x2 ≤ x4 → K_51 x1 x2 x3 N_h L_h O_h) ∧ (¬ (x2 ≤ x4) → wp_X7_orders_34 K_51 Q n34 x1 x2 (x3 * 10) (x4 + 1) N_h L_h O_h))
def wp_X7_orders_60 (D_h : gMD) (K_91 : Int → Int → Int → Int → Int → gMN → gML → gMO → Prop)  (Q : Int → gMN → gML → gMO → Prop) : Nat → Int → Int → Int → Int → Int → Int → gMN → gML → gMO → Prop
  | 0, _, _, _, _, _, _, _, _, _ => False
  | n60 + 1, x1, x2, x3, x4, x5, x6, N_h, L_h, O_h =>
    rI x6 ∧ rI x2 ∧ ((x2 ≤ x6 → K_91 x1 x2 x3 x4 x5 N_h L_h O_h) ∧ (¬ (x2 ≤ x6) → (0 ≤ (2 * x6) ∧ (2 * x6) < 60) ∧ wp_X7_orders_60 D_h K_91 Q n60 x1 x2 x3 x4 (ior x5 (ishl 1 ((D_h.2 (2 * x6)) - 65))) (x6 + 1) N_h L_h O_h))
def wp_X7_orders_109 (K_157 : Int → Int → Int → Int → Int → Int → Int → gMN → gML → gMO → Prop)  (Q : Int → gMN → gML → gMO → Prop) : Nat → Int → Int → Int → Int → Int → Int → Int → Int → Int → gMN → gML → gMO → Prop
  | 0, _, _, _, _, _, _, _, _, _, _, _, _ => False
  | n109 + 1, x1, x2, x3, x4, x5, x6, x7, x8, x9, N_h, L_h, O_h =>
    rI x9 ∧ rI x2 ∧ ((x2 ≤ x9 → K_157 x1 x2 x3 x4 x5 x6 x8 N_h L_h O_h) ∧ (¬ (x2 ≤ x9) → rI x7 ∧ ¬ (x7.tdiv 10) = 0 ∧ rI x6 ∧ rI (x7.tdiv 10) ∧ rI (x6.tdiv (x7.tdiv 10)) ∧ (0 ≤ x9 ∧ x9 < 6) ∧ wp_X7_orders_109 K_157 Q n109 x1 x2 x3 x4 x5 x6 (x7.tdiv 10) (ior x8 (ishl 1 ((aset O_h.1 x9 ((x6.tdiv (x7.tdiv 10)).tmod 10)) x9))) (x9 + 1) N_h L_h (aset O_h.1 x9 ((x6.tdiv (x7.tdiv 10)).tmod 10), O_h.2)))
def wp_X7_orders_183 (B_h : gMB) (D_h : gMD) (K_232 : Int → Int → Int → Int → Int → Int → Int → gMN → gML → gMO → Prop)  (Q : Int → gMN → gML → gMO → Prop) : Nat → Int → Int → Int → Int → Int → Int → Int → Int → gMN → gML → gMO → Prop
  | 0, _, _, _, _, _, _, _, _, _, _, _ => False
  | n183 + 1, x1, x2, x3, x4, x5, x6, x9, x10, N_h, L_h, O_h =>
    rI x10 ∧ rI x2 ∧ ((x2 ≤ x10 → K_232 x1 x2 x3 x4 x5 x6 x9 N_h L_h O_h) ∧ (¬ (x2 ≤ x10) → rI x9 ∧ ((x9 = 0 → K_232 x1 x2 x3 x4 x5 x6 x9 N_h L_h O_h) ∧ (¬ (x9 = 0) → (0 ≤ x10 ∧ x10 < 6) ∧ wp_X7_columnTold D_h (O_h.1 x10) (fun (r210 : Int) => wp_X7_put B_h N_h L_h (O_h.1 x10) r210 (fun (r213 : Int) (N_h_213 : gMN) (L_h_213 : gML) => rI r213 ∧ ((¬ r213 = 0 → wp_X7_orders_183 B_h D_h K_232 Q n183 x1 x2 x3 x4 x5 x6 0 (x10 + 1) N_h_213 L_h_213 O_h) ∧ (¬ (¬ r213 = 0) → wp_X7_orders_183 B_h D_h K_232 Q n183 x1 x2 x3 x4 x5 x6 1 (x10 + 1) N_h_213 L_h_213 O_h))))))))
def wp_X7_orders_240 (K_271 : Int → Int → Int → Int → Int → Int → gMN → gML → gMO → Prop)  (Q : Int → gMN → gML → gMO → Prop) : Nat → Int → Int → Int → Int → Int → Int → Int → gMN → gML → gMO → Prop
  | 0, _, _, _, _, _, _, _, _, _, _ => False
  | n240 + 1, x1, x2, x3, x4, x5, x6, x10, N_h, L_h, O_h =>
    rI x10 ∧ rI x2 ∧ ((x2 ≤ x10 → K_271 x1 x2 x3 x4 x5 x6 N_h L_h O_h) ∧ (¬ (x2 ≤ x10) → rI x4 ∧ ((¬ x4 = 0 → K_271 x1 x2 x3 x4 x5 x6 N_h L_h O_h) ∧ (¬ (¬ x4 = 0) → (0 ≤ x10 ∧ x10 < 6) ∧ wp_X7_orders_240 K_271 Q n240 x1 x2 x3 x4 x5 x6 (x10 + 1) N_h L_h (O_h.1, aset O_h.2 x10 (O_h.1 x10))))))
def wp_X7_orders_232 (K_94 : Int → Int → Int → Int → Int → Int → gMN → gML → gMO → Prop)  (Q : Int → gMN → gML → gMO → Prop) (x1 : Int) (x2 : Int) (x3 : Int) (x4 : Int) (x5 : Int) (x6 : Int) (x9 : Int) (N_h : gMN) (L_h : gML) (O_h : gMO) : Prop :=
    rI x9 ∧ ((x9 = 0 → K_94 x1 x2 x3 x4 x5 (x6 + 1) N_h L_h O_h) ∧ (¬ (x9 = 0) → ∃ m240, wp_X7_orders_240 (fun (x1 : Int) (x2 : Int) (x3 : Int) (x4 : Int) (x5 : Int) (x6 : Int) (N_h : gMN) (L_h : gML) (O_h : gMO) => K_94 x1 x2 x3 (x4 + 1) x5 (x6 + 1) N_h L_h O_h) Q m240 x1 x2 x3 x4 x5 x6 0 N_h L_h O_h))
def wp_X7_orders_169 (B_h : gMB) (P_h : gMP) (D_h : gMD) (K_94 : Int → Int → Int → Int → Int → Int → gMN → gML → gMO → Prop)  (Q : Int → gMN → gML → gMO → Prop) (x1 : Int) (x2 : Int) (x3 : Int) (x4 : Int) (x5 : Int) (x6 : Int) (s0 : Int) (N_h : gMN) (L_h : gML) (O_h : gMO) : Prop :=
    rI s0 ∧ ((s0 = 0 → ∃ m183, wp_X7_orders_183 B_h D_h (fun (x1 : Int) (x2 : Int) (x3 : Int) (x4 : Int) (x5 : Int) (x6 : Int) (x9 : Int) (N_h : gMN) (L_h : gML) (O_h : gMO) => wp_X7_orders_232 K_94 Q x1 x2 x3 x4 x5 x6 x9 N_h L_h O_h) Q m183 x1 x2 x3 x4 x5 x6 s0 0 N_h L_h O_h) ∧ (¬ (s0 = 0) → wp_X7_asNow P_h N_h (fun (N_h_177 : gMN) => ∃ m183, wp_X7_orders_183 B_h D_h (fun (x1 : Int) (x2 : Int) (x3 : Int) (x4 : Int) (x5 : Int) (x6 : Int) (x9 : Int) (N_h : gMN) (L_h : gML) (O_h : gMO) => wp_X7_orders_232 K_94 Q x1 x2 x3 x4 x5 x6 x9 N_h L_h O_h) Q m183 x1 x2 x3 x4 x5 x6 s0 0 N_h_177 L_h O_h)))
def wp_X7_orders_94 (B_h : gMB) (P_h : gMP) (D_h : gMD) (K_280 : Int → Int → Int → gMN → gML → gMO → Prop)  (Q : Int → gMN → gML → gMO → Prop) : Nat → Int → Int → Int → Int → Int → Int → gMN → gML → gMO → Prop
  | 0, _, _, _, _, _, _, _, _, _ => False
  | n94 + 1, x1, x2, x3, x4, x5, x6, N_h, L_h, O_h =>
    rI x6 ∧ rI x3 ∧ ((x3 ≤ x6 → K_280 x1 x2 x4 N_h L_h O_h) ∧ (¬ (x3 ≤ x6) → ∃ m109, wp_X7_orders_109 (fun (x1 : Int) (x2 : Int) (x3 : Int) (x4 : Int) (x5 : Int) (x6 : Int) (x8 : Int) (N_h : gMN) (L_h : gML) (O_h : gMO) => rI x8 ∧ rI x5 ∧ ((¬ x8 = x5 → wp_X7_orders_169 B_h P_h D_h (fun (x1 : Int) (x2 : Int) (x3 : Int) (x4 : Int) (x5 : Int) (x6 : Int) (N_h : gMN) (L_h : gML) (O_h : gMO) => wp_X7_orders_94 B_h P_h D_h K_280 Q n94 x1 x2 x3 x4 x5 x6 N_h L_h O_h) Q x1 x2 x3 x4 x5 x6 0 N_h L_h O_h) ∧ (¬ (¬ x8 = x5) → wp_X7_orders_169 B_h P_h D_h (fun (x1 : Int) (x2 : Int) (x3 : Int) (x4 : Int) (x5 : Int) (x6 : Int) (N_h : gMN) (L_h : gML) (O_h : gMO) => wp_X7_orders_94 B_h P_h D_h K_280 Q n94 x1 x2 x3 x4 x5 x6 N_h L_h O_h) Q x1 x2 x3 x4 x5 x6 1 N_h L_h O_h))) Q m109 x1 x2 x3 x4 x5 x6 x3 0 0 N_h L_h O_h))
def wp_X7_orders (B_h : gMB) (P_h : gMP) (N_h : gMN) (L_h : gML) (D_h : gMD) (O_h : gMO) (x1 : Int) (Q : Int → gMN → gML → gMO → Prop) : Prop :=
    wp_X7_arePuts B_h D_h (fun (r1 : Int) => ((¬ r1 = 0 → rI D_h.1 ∧ ((D_h.1 ≤ 12 → ∃ m34, wp_X7_orders_34 (fun (x1 : Int) (x2 : Int) (x3 : Int) (N_h : gMN) (L_h : gML) (O_h : gMO) => ∃ m60, wp_X7_orders_60 D_h (fun (x1 : Int) (x2 : Int) (x3 : Int) (x4 : Int) (x5 : Int) (N_h : gMN) (L_h : gML) (O_h : gMO) => ∃ m94, wp_X7_orders_94 B_h P_h D_h (fun (x1 : Int) (x2 : Int) (x4 : Int) (N_h : gMN) (L_h : gML) (O_h : gMO) => rI x1 ∧ ((¬ x1 = (-1) → rI x4 ∧ ((x4 ≤ 0 → Q (-6) N_h L_h O_h) ∧ (¬ (x4 ≤ 0) → wp_X7_in x1 0 (x2 - 1) (fun (r298 : Int) => ((r298 = 0 → Q (-6) N_h L_h O_h) ∧ (¬ (r298 = 0) → (0 ≤ x1 ∧ x1 < 6) ∧ Q (O_h.2 x1) N_h L_h O_h)))))) ∧ (¬ (¬ x1 = (-1)) → Q x4 N_h L_h O_h))) Q m94 x1 x2 x3 x4 x5 0 N_h L_h O_h) Q m60 x1 x2 x3 0 0 0 N_h L_h O_h) Q m34 x1 (D_h.1.tdiv 2) 1 0 N_h L_h O_h) ∧ (¬ (D_h.1 ≤ 12) → Q (-4) N_h L_h O_h))) ∧ (¬ (¬ r1 = 0) → Q (-5) N_h L_h O_h)))
set_option maxHeartbeats 4000000 in
set_option maxRecDepth 20000 in
theorem w_X7_orders_34 {l : Launch} {D : va_G} {cI cJ cZ : ClassId} {A : Nat → Prop} {K : KT} {qh : Nat → Nat} {B_h : gMB} {P_h : gMP} {E_h : gME} {V_h : gMV} {G_h : gMG} {D_h : gMD} {Z_h : gMZ} {R_h : gMR} {I_h : gMI} {Q : Int → gMN → gML → gMO → Prop} {K_51 : Int → Int → Int → gMN → gML → gMO → Prop} (C : KC cX7_orders yX7_orders.cls wsX7_orders rm_X7_orders 11 D (kT cI cJ cZ) A l false (rp_X7_orders cI cJ cZ qh B_h P_h E_h V_h G_h D_h Z_h R_h I_h Q) 0 0 K) : ∀ (n : Nat) (x1 : Int) (x2 : Int) (x3 : Int) (x4 : Int) (N_h : gMN) (L_h : gML) (O_h : gMO), wp_X7_orders_34 K_51 Q n x1 x2 x3 x4 N_h L_h O_h → (∀ (x1 : Int) (x2 : Int) (x3 : Int) (N_h : gMN) (L_h : gML) (O_h : gMO), K_51 x1 x2 x3 N_h L_h O_h → K 0 0 51 [(0, .ref (qh 0)), (1, .int (iI x1)), (2, .int (iI x2)), (3, .int (iI x3))] [] ((wdM cI cJ cZ qh B_h P_h N_h L_h E_h V_h G_h D_h O_h Z_h R_h I_h))) → K 0 0 34 [(0, .ref (qh 0)), (1, .int (iI x1)), (2, .int (iI x2)), (3, .int (iI x3)), (4, .int (iI x4))] [] ((wdM cI cJ cZ qh B_h P_h N_h L_h E_h V_h G_h D_h O_h Z_h R_h I_h)) := by
  intro n
  induction n with
  | zero => intro x1 x2 x3 x4 N_h L_h O_h h; exact h.elim
  | succ n ih =>
    intro x1 x2 x3 x4 N_h L_h O_h h hK_51
    refine k_iload C dX7_orders_34 4 rfl 36 rfl ?_
    refine k_iload_n C dX7_orders_36 2 rfl rfl 37 rfl ?_
    obtain ⟨hr37a, hr37b, h⟩ := h
    obtain ⟨ht, hf⟩ := h
    refine k_icmp_ge C dX7_orders_37 ⟨hr37a, hr37b⟩ 51 40 (by decide) rfl (fun hc37 => ?_) (fun hc37 => ?_)
    · have h := ht hc37; clear ht hf
      refine k_lv C [0, 1, 2, 3] [(0, .ref (qh 0)), (1, .int (iI x1)), (2, .int (iI x2)), (3, .int (iI x3))] rfl ?_
      exact hK_51 x1 x2 x3 N_h L_h O_h h
    · have h := hf hc37; clear ht hf
      refine k_iload_n C dX7_orders_40 3 rfl rfl 41 rfl ?_
      refine k_bipush C dX7_orders_41 (by decide) 43 rfl ?_
      refine k_imul C dX7_orders_43 44 rfl ?_
      refine k_istore_n C dX7_orders_44 rfl (by decide) [(3, .int (iI (x3 * 10))), (0, .ref (qh 0)), (1, .int (iI x1)), (2, .int (iI x2)), (4, .int (iI x4))] rfl 45 rfl ?_
      refine k_iinc (j := 4) C dX7_orders_45 rfl (by decide) [(4, .int (iI (x4 + 1))), (3, .int (iI (x3 * 10))), (0, .ref (qh 0)), (1, .int (iI x1)), (2, .int (iI x2))] rfl 48 rfl ?_
      refine k_goto C dX7_orders_48 34 (by decide) ?_
      refine k_lv C [2, 3, 4, 1, 0] [(0, .ref (qh 0)), (1, .int (iI x1)), (2, .int (iI x2)), (3, .int (iI (x3 * 10))), (4, .int (iI (x4 + 1)))] rfl ?_
      exact ih x1 x2 (x3 * 10) (x4 + 1) N_h L_h O_h h hK_51
set_option maxHeartbeats 4000000 in
set_option maxRecDepth 20000 in
theorem w_X7_orders_60 {l : Launch} {D : va_G} {cI cJ cZ : ClassId} {A : Nat → Prop} {K : KT} {qh : Nat → Nat} {B_h : gMB} {P_h : gMP} {E_h : gME} {V_h : gMV} {G_h : gMG} {D_h : gMD} {Z_h : gMZ} {R_h : gMR} {I_h : gMI} {Q : Int → gMN → gML → gMO → Prop} {K_91 : Int → Int → Int → Int → Int → gMN → gML → gMO → Prop} (C : KC cX7_orders yX7_orders.cls wsX7_orders rm_X7_orders 11 D (kT cI cJ cZ) A l false (rp_X7_orders cI cJ cZ qh B_h P_h E_h V_h G_h D_h Z_h R_h I_h Q) 0 0 K) : ∀ (n : Nat) (x1 : Int) (x2 : Int) (x3 : Int) (x4 : Int) (x5 : Int) (x6 : Int) (N_h : gMN) (L_h : gML) (O_h : gMO), wp_X7_orders_60 D_h K_91 Q n x1 x2 x3 x4 x5 x6 N_h L_h O_h → (∀ (x1 : Int) (x2 : Int) (x3 : Int) (x4 : Int) (x5 : Int) (N_h : gMN) (L_h : gML) (O_h : gMO), K_91 x1 x2 x3 x4 x5 N_h L_h O_h → K 0 0 91 [(0, .ref (qh 0)), (1, .int (iI x1)), (2, .int (iI x2)), (3, .int (iI x3)), (4, .int (iI x4)), (5, .int (iI x5))] [] ((wdM cI cJ cZ qh B_h P_h N_h L_h E_h V_h G_h D_h O_h Z_h R_h I_h))) → K 0 0 60 [(0, .ref (qh 0)), (1, .int (iI x1)), (2, .int (iI x2)), (3, .int (iI x3)), (4, .int (iI x4)), (5, .int (iI x5)), (6, .int (iI x6))] [] ((wdM cI cJ cZ qh B_h P_h N_h L_h E_h V_h G_h D_h O_h Z_h R_h I_h)) := by
  intro n
  induction n with
  | zero => intro x1 x2 x3 x4 x5 x6 N_h L_h O_h h; exact h.elim
  | succ n ih =>
    intro x1 x2 x3 x4 x5 x6 N_h L_h O_h h hK_91
    refine k_iload C dX7_orders_60 6 rfl 62 rfl ?_
    refine k_iload_n C dX7_orders_62 2 rfl rfl 63 rfl ?_
    obtain ⟨hr63a, hr63b, h⟩ := h
    obtain ⟨ht, hf⟩ := h
    refine k_icmp_ge C dX7_orders_63 ⟨hr63a, hr63b⟩ 91 66 (by decide) rfl (fun hc63 => ?_) (fun hc63 => ?_)
    · have h := ht hc63; clear ht hf
      refine k_lv C [0, 1, 2, 3, 4, 5] [(0, .ref (qh 0)), (1, .int (iI x1)), (2, .int (iI x2)), (3, .int (iI x3)), (4, .int (iI x4)), (5, .int (iI x5))] rfl ?_
      exact hK_91 x1 x2 x3 x4 x5 N_h L_h O_h h
    · have h := hf hc63; clear ht hf
      refine k_iload C dX7_orders_66 5 rfl 68 rfl ?_
      refine k_iconst C dX7_orders_68 69 rfl ?_
      refine k_aload_n C dX7_orders_69 0 rfl rfl 70 rfl ?_
      refine k_get C dX7_orders_70 0 rfl (ci := 7) rfl hin_X7_orders_7 10 (by decide) (List.mem_of_getElem? (i := 2) rfl) rfl 73 rfl ?_
      refine k_iconst C dX7_orders_73 74 rfl ?_
      refine k_iload C dX7_orders_74 6 rfl 76 rfl ?_
      refine k_imul C dX7_orders_76 77 rfl ?_
      obtain ⟨hi77, h⟩ := h
      refine k_iaload C dX7_orders_77 7 0 rfl rfl (by decide) hi77 78 rfl ?_
      refine k_bipush C dX7_orders_78 (by decide) 80 rfl ?_
      refine k_isub C dX7_orders_80 81 rfl ?_
      refine k_ishl C dX7_orders_81 82 rfl ?_
      refine k_ior C dX7_orders_82 83 rfl ?_
      refine k_istore C dX7_orders_83 (by decide) [(5, .int (iI (ior x5 (ishl 1 ((D_h.2 (2 * x6)) - 65))))), (0, .ref (qh 0)), (1, .int (iI x1)), (2, .int (iI x2)), (3, .int (iI x3)), (4, .int (iI x4)), (6, .int (iI x6))] rfl 85 rfl ?_
      refine k_iinc (j := 6) C dX7_orders_85 rfl (by decide) [(6, .int (iI (x6 + 1))), (5, .int (iI (ior x5 (ishl 1 ((D_h.2 (2 * x6)) - 65))))), (0, .ref (qh 0)), (1, .int (iI x1)), (2, .int (iI x2)), (3, .int (iI x3)), (4, .int (iI x4))] rfl 88 rfl ?_
      refine k_goto C dX7_orders_88 60 (by decide) ?_
      refine k_lv C [2, 3, 4, 5, 6, 1, 0] [(0, .ref (qh 0)), (1, .int (iI x1)), (2, .int (iI x2)), (3, .int (iI x3)), (4, .int (iI x4)), (5, .int (iI (ior x5 (ishl 1 ((D_h.2 (2 * x6)) - 65))))), (6, .int (iI (x6 + 1)))] rfl ?_
      exact ih x1 x2 x3 x4 (ior x5 (ishl 1 ((D_h.2 (2 * x6)) - 65))) (x6 + 1) N_h L_h O_h h hK_91
set_option maxHeartbeats 4000000 in
set_option maxRecDepth 20000 in
theorem w_X7_orders_109 {l : Launch} {D : va_G} {cI cJ cZ : ClassId} {A : Nat → Prop} {K : KT} {qh : Nat → Nat} {B_h : gMB} {P_h : gMP} {E_h : gME} {V_h : gMV} {G_h : gMG} {D_h : gMD} {Z_h : gMZ} {R_h : gMR} {I_h : gMI} {Q : Int → gMN → gML → gMO → Prop} {K_157 : Int → Int → Int → Int → Int → Int → Int → gMN → gML → gMO → Prop} (C : KC cX7_orders yX7_orders.cls wsX7_orders rm_X7_orders 11 D (kT cI cJ cZ) A l false (rp_X7_orders cI cJ cZ qh B_h P_h E_h V_h G_h D_h Z_h R_h I_h Q) 0 0 K) : ∀ (n : Nat) (x1 : Int) (x2 : Int) (x3 : Int) (x4 : Int) (x5 : Int) (x6 : Int) (x7 : Int) (x8 : Int) (x9 : Int) (N_h : gMN) (L_h : gML) (O_h : gMO), wp_X7_orders_109 K_157 Q n x1 x2 x3 x4 x5 x6 x7 x8 x9 N_h L_h O_h → (∀ (x1 : Int) (x2 : Int) (x3 : Int) (x4 : Int) (x5 : Int) (x6 : Int) (x8 : Int) (N_h : gMN) (L_h : gML) (O_h : gMO), K_157 x1 x2 x3 x4 x5 x6 x8 N_h L_h O_h → K 0 0 157 [(0, .ref (qh 0)), (1, .int (iI x1)), (2, .int (iI x2)), (3, .int (iI x3)), (4, .int (iI x4)), (5, .int (iI x5)), (6, .int (iI x6)), (8, .int (iI x8))] [] ((wdM cI cJ cZ qh B_h P_h N_h L_h E_h V_h G_h D_h O_h Z_h R_h I_h))) → K 0 0 109 [(0, .ref (qh 0)), (1, .int (iI x1)), (2, .int (iI x2)), (3, .int (iI x3)), (4, .int (iI x4)), (5, .int (iI x5)), (6, .int (iI x6)), (7, .int (iI x7)), (8, .int (iI x8)), (9, .int (iI x9))] [] ((wdM cI cJ cZ qh B_h P_h N_h L_h E_h V_h G_h D_h O_h Z_h R_h I_h)) := by
  intro n
  induction n with
  | zero => intro x1 x2 x3 x4 x5 x6 x7 x8 x9 N_h L_h O_h h; exact h.elim
  | succ n ih =>
    intro x1 x2 x3 x4 x5 x6 x7 x8 x9 N_h L_h O_h h hK_157
    refine k_iload C dX7_orders_109 9 rfl 111 rfl ?_
    refine k_iload_n C dX7_orders_111 2 rfl rfl 112 rfl ?_
    obtain ⟨hr112a, hr112b, h⟩ := h
    obtain ⟨ht, hf⟩ := h
    refine k_icmp_ge C dX7_orders_112 ⟨hr112a, hr112b⟩ 157 115 (by decide) rfl (fun hc112 => ?_) (fun hc112 => ?_)
    · have h := ht hc112; clear ht hf
      refine k_lv C [0, 1, 2, 3, 4, 5, 6, 8] [(0, .ref (qh 0)), (1, .int (iI x1)), (2, .int (iI x2)), (3, .int (iI x3)), (4, .int (iI x4)), (5, .int (iI x5)), (6, .int (iI x6)), (8, .int (iI x8))] rfl ?_
      exact hK_157 x1 x2 x3 x4 x5 x6 x8 N_h L_h O_h h
    · have h := hf hc112; clear ht hf
      refine k_iload C dX7_orders_115 7 rfl 117 rfl ?_
      refine k_bipush C dX7_orders_117 (by decide) 119 rfl ?_
      obtain ⟨hr119a, h⟩ := h
      refine k_idiv C dX7_orders_119 ⟨hr119a, (by decide), (by decide)⟩ 120 rfl ?_
      refine k_istore C dX7_orders_120 (by decide) [(7, .int (iI (x7.tdiv 10))), (0, .ref (qh 0)), (1, .int (iI x1)), (2, .int (iI x2)), (3, .int (iI x3)), (4, .int (iI x4)), (5, .int (iI x5)), (6, .int (iI x6)), (8, .int (iI x8)), (9, .int (iI x9))] rfl 122 rfl ?_
      refine k_aload_n C dX7_orders_122 1 rfl rfl 123 rfl ?_
      refine k_get C dX7_orders_123 0 rfl (ci := 7) rfl hin_X7_orders_7 17 (by decide) (List.mem_of_getElem? (i := 3) rfl) rfl 126 rfl ?_
      refine k_iload C dX7_orders_126 9 rfl 128 rfl ?_
      refine k_iload C dX7_orders_128 7 rfl 130 rfl ?_
      refine k_iload C dX7_orders_130 0 rfl 132 rfl ?_
      obtain ⟨hz132, h⟩ := h
      obtain ⟨hr132a, hr132b, h⟩ := h
      refine k_idiv C dX7_orders_132 ⟨hr132a, hr132b, hz132⟩ 133 rfl ?_
      refine k_bipush C dX7_orders_133 (by decide) 135 rfl ?_
      obtain ⟨hr135a, h⟩ := h
      refine k_irem C dX7_orders_135 ⟨hr135a, (by decide), (by decide)⟩ 136 rfl ?_
      obtain ⟨hi136, h⟩ := h
      refine k_iastore C dX7_orders_136 11 0 rfl rfl (by decide) hi136 ((wdM cI cJ cZ qh B_h P_h N_h L_h E_h V_h G_h D_h (aset O_h.1 x9 ((x6.tdiv (x7.tdiv 10)).tmod 10), O_h.2) Z_h R_h I_h)) rfl 137 rfl ?_
      refine k_iload C dX7_orders_137 8 rfl 139 rfl ?_
      refine k_iconst C dX7_orders_139 140 rfl ?_
      refine k_aload_n C dX7_orders_140 1 rfl rfl 141 rfl ?_
      refine k_get C dX7_orders_141 0 rfl (ci := 7) rfl hin_X7_orders_7 17 (by decide) (List.mem_of_getElem? (i := 3) rfl) rfl 144 rfl ?_
      refine k_iload C dX7_orders_144 9 rfl 146 rfl ?_
      refine k_iaload C dX7_orders_146 11 0 rfl rfl (by decide) hi136 147 rfl ?_
      refine k_ishl C dX7_orders_147 148 rfl ?_
      refine k_ior C dX7_orders_148 149 rfl ?_
      refine k_istore C dX7_orders_149 (by decide) [(8, .int (iI (ior x8 (ishl 1 ((aset O_h.1 x9 ((x6.tdiv (x7.tdiv 10)).tmod 10)) x9))))), (7, .int (iI (x7.tdiv 10))), (0, .ref (qh 0)), (1, .int (iI x1)), (2, .int (iI x2)), (3, .int (iI x3)), (4, .int (iI x4)), (5, .int (iI x5)), (6, .int (iI x6)), (9, .int (iI x9))] rfl 151 rfl ?_
      refine k_iinc (j := 9) C dX7_orders_151 rfl (by decide) [(9, .int (iI (x9 + 1))), (8, .int (iI (ior x8 (ishl 1 ((aset O_h.1 x9 ((x6.tdiv (x7.tdiv 10)).tmod 10)) x9))))), (7, .int (iI (x7.tdiv 10))), (0, .ref (qh 0)), (1, .int (iI x1)), (2, .int (iI x2)), (3, .int (iI x3)), (4, .int (iI x4)), (5, .int (iI x5)), (6, .int (iI x6))] rfl 154 rfl ?_
      refine k_goto C dX7_orders_154 109 (by decide) ?_
      refine k_lv C [3, 4, 5, 6, 7, 8, 9, 2, 1, 0] [(0, .ref (qh 0)), (1, .int (iI x1)), (2, .int (iI x2)), (3, .int (iI x3)), (4, .int (iI x4)), (5, .int (iI x5)), (6, .int (iI x6)), (7, .int (iI (x7.tdiv 10))), (8, .int (iI (ior x8 (ishl 1 ((aset O_h.1 x9 ((x6.tdiv (x7.tdiv 10)).tmod 10)) x9))))), (9, .int (iI (x9 + 1)))] rfl ?_
      exact ih x1 x2 x3 x4 x5 x6 (x7.tdiv 10) (ior x8 (ishl 1 ((aset O_h.1 x9 ((x6.tdiv (x7.tdiv 10)).tmod 10)) x9))) (x9 + 1) N_h L_h (aset O_h.1 x9 ((x6.tdiv (x7.tdiv 10)).tmod 10), O_h.2) h hK_157
set_option maxHeartbeats 4000000 in
set_option maxRecDepth 20000 in
theorem w_X7_orders_183 {l : Launch} {D : va_G} {cI cJ cZ : ClassId} {A : Nat → Prop} {K : KT} {qh : Nat → Nat} {B_h : gMB} {P_h : gMP} {E_h : gME} {V_h : gMV} {G_h : gMG} {D_h : gMD} {Z_h : gMZ} {R_h : gMR} {I_h : gMI} {Q : Int → gMN → gML → gMO → Prop} {K_232 : Int → Int → Int → Int → Int → Int → Int → gMN → gML → gMO → Prop} (C : KC cX7_orders yX7_orders.cls wsX7_orders rm_X7_orders 11 D (kT cI cJ cZ) A l false (rp_X7_orders cI cJ cZ qh B_h P_h E_h V_h G_h D_h Z_h R_h I_h Q) 0 0 K) : ∀ (n : Nat) (x1 : Int) (x2 : Int) (x3 : Int) (x4 : Int) (x5 : Int) (x6 : Int) (x9 : Int) (x10 : Int) (N_h : gMN) (L_h : gML) (O_h : gMO), wp_X7_orders_183 B_h D_h K_232 Q n x1 x2 x3 x4 x5 x6 x9 x10 N_h L_h O_h → (∀ (x1 : Int) (x2 : Int) (x3 : Int) (x4 : Int) (x5 : Int) (x6 : Int) (x9 : Int) (N_h : gMN) (L_h : gML) (O_h : gMO), K_232 x1 x2 x3 x4 x5 x6 x9 N_h L_h O_h → K 0 0 232 [(0, .ref (qh 0)), (1, .int (iI x1)), (2, .int (iI x2)), (3, .int (iI x3)), (4, .int (iI x4)), (5, .int (iI x5)), (6, .int (iI x6)), (9, .int (iI x9))] [] ((wdM cI cJ cZ qh B_h P_h N_h L_h E_h V_h G_h D_h O_h Z_h R_h I_h))) → K 0 0 183 [(0, .ref (qh 0)), (1, .int (iI x1)), (2, .int (iI x2)), (3, .int (iI x3)), (4, .int (iI x4)), (5, .int (iI x5)), (6, .int (iI x6)), (9, .int (iI x9)), (10, .int (iI x10))] [] ((wdM cI cJ cZ qh B_h P_h N_h L_h E_h V_h G_h D_h O_h Z_h R_h I_h)) := by
  intro n
  induction n with
  | zero => intro x1 x2 x3 x4 x5 x6 x9 x10 N_h L_h O_h h; exact h.elim
  | succ n ih =>
    intro x1 x2 x3 x4 x5 x6 x9 x10 N_h L_h O_h h hK_232
    refine k_iload C dX7_orders_183 8 rfl 185 rfl ?_
    refine k_iload_n C dX7_orders_185 2 rfl rfl 186 rfl ?_
    obtain ⟨hr186a, hr186b, h⟩ := h
    obtain ⟨ht, hf⟩ := h
    refine k_icmp_ge C dX7_orders_186 ⟨hr186a, hr186b⟩ 232 189 (by decide) rfl (fun hc186 => ?_) (fun hc186 => ?_)
    · have h := ht hc186; clear ht hf
      refine k_lv C [0, 1, 2, 3, 4, 5, 6, 7] [(0, .ref (qh 0)), (1, .int (iI x1)), (2, .int (iI x2)), (3, .int (iI x3)), (4, .int (iI x4)), (5, .int (iI x5)), (6, .int (iI x6)), (9, .int (iI x9))] rfl ?_
      exact hK_232 x1 x2 x3 x4 x5 x6 x9 N_h L_h O_h h
    · have h := hf hc186; clear ht hf
      refine k_iload C dX7_orders_189 7 rfl 191 rfl ?_
      obtain ⟨hr191a, h⟩ := h
      obtain ⟨ht, hf⟩ := h
      refine k_if_eq C dX7_orders_191 hr191a 232 194 (by decide) rfl (fun hc191 => ?_) (fun hc191 => ?_)
      · have h := ht hc191; clear ht hf
        refine k_lv C [0, 1, 2, 3, 4, 5, 6, 7] [(0, .ref (qh 0)), (1, .int (iI x1)), (2, .int (iI x2)), (3, .int (iI x3)), (4, .int (iI x4)), (5, .int (iI x5)), (6, .int (iI x6)), (9, .int (iI x9))] rfl ?_
        exact hK_232 x1 x2 x3 x4 x5 x6 x9 N_h L_h O_h h
      · have h := hf hc191; clear ht hf
        refine k_aload_n C dX7_orders_194 0 rfl rfl 195 rfl ?_
        refine k_aload_n C dX7_orders_195 0 rfl rfl 196 rfl ?_
        refine k_get C dX7_orders_196 0 rfl (ci := 7) rfl hin_X7_orders_7 17 (by decide) (List.mem_of_getElem? (i := 3) rfl) rfl 199 rfl ?_
        refine k_iload C dX7_orders_199 8 rfl 201 rfl ?_
        obtain ⟨hi201, h⟩ := h
        refine k_iaload C dX7_orders_201 11 0 rfl rfl (by decide) hi201 202 rfl ?_
        refine k_aload_n C dX7_orders_202 0 rfl rfl 203 rfl ?_
        refine k_aload_n C dX7_orders_203 0 rfl rfl 204 rfl ?_
        refine k_get C dX7_orders_204 0 rfl (ci := 7) rfl hin_X7_orders_7 17 (by decide) (List.mem_of_getElem? (i := 3) rfl) rfl 207 rfl ?_
        refine k_iload C dX7_orders_207 8 rfl 209 rfl ?_
        refine k_iaload C dX7_orders_209 11 0 rfl rfl (by decide) hi201 210 rfl ?_
        have hM := c_X7_columnTold (l := l) (D := D) (cI := cI) (cJ := cJ) (cZ := cZ) qh B_h P_h N_h L_h E_h V_h G_h D_h O_h Z_h R_h I_h (O_h.1 x10) _ h
        refine k_callV C dX7_orders_210 hM gX7_orders_X7_columnTold rfl sg_X7_columnTold 7 rfl rfl rfl (Nat.le_of_ble_eq_true rfl) ⟨⟨rfl, rfl⟩, by decide, by decide⟩ ⟨Nat.le_refl 0, Nat.le_refl 0⟩ [0, 1, 2, 3, 4, 5, 6, 7, 8, 9, 10, 11, 12, 13, 14, 15, 16] [] rfl rfl rfl rfl (by decide) 0 0 ⟨rfl, rfl⟩ 213 rfl (fun v w1 hq210 => ?_)
        obtain ⟨r210, rfl, rfl, h⟩ := hq210
        refine k_perm C [0, 1, 2, 3, 4, 5, 6, 7, 8, 9, 10, 11, 12, 13, 14, 15, 16] [.int (iI r210), .int (iI (O_h.1 x10)), .ref (qh 0)] ((wdM cI cJ cZ qh B_h P_h N_h L_h E_h V_h G_h D_h O_h Z_h R_h I_h)) rfl rfl rfl ?_
        have hM := c_X7_put (l := l) (D := D) (cI := cI) (cJ := cJ) (cZ := cZ) qh B_h P_h N_h L_h E_h V_h G_h D_h O_h Z_h R_h I_h (O_h.1 x10) r210 _ h
        refine k_callV C dX7_orders_213 hM gX7_orders_X7_put rfl sg_X7_put 7 rfl rfl rfl (Nat.le_of_ble_eq_true rfl) ⟨⟨rfl, rfl⟩, by decide, by decide⟩ ⟨Nat.le_refl 0, Nat.le_refl 0⟩ [0, 1, 2, 3, 4, 5, 6, 7, 8, 9, 10, 11, 12, 13, 14, 15, 16] [] rfl rfl rfl rfl (by decide) 0 0 ⟨rfl, rfl⟩ 216 rfl (fun v w1 hq213 => ?_)
        obtain ⟨r213, N_h_213, L_h_213, rfl, rfl, h⟩ := hq213
        refine k_perm C [0, 1, 2, 3, 4, 5, 6, 7, 8, 9, 10, 11, 12, 13, 14, 15, 16] [.int (iI r213)] ((wdM cI cJ cZ qh B_h P_h N_h_213 L_h_213 E_h V_h G_h D_h O_h Z_h R_h I_h)) rfl rfl rfl ?_
        obtain ⟨hr216a, h⟩ := h
        obtain ⟨ht, hf⟩ := h
        refine k_if_ne C dX7_orders_216 hr216a 223 219 (by decide) rfl (fun hc216 => ?_) (fun hc216 => ?_)
        · have h := ht hc216; clear ht hf
          refine k_iconst C dX7_orders_223 224 rfl ?_
          refine k_istore C dX7_orders_224 (by decide) [(9, .int (iI 0)), (0, .ref (qh 0)), (1, .int (iI x1)), (2, .int (iI x2)), (3, .int (iI x3)), (4, .int (iI x4)), (5, .int (iI x5)), (6, .int (iI x6)), (10, .int (iI x10))] rfl 226 rfl ?_
          refine k_iinc (j := 8) C dX7_orders_226 rfl (by decide) [(10, .int (iI (x10 + 1))), (9, .int (iI 0)), (0, .ref (qh 0)), (1, .int (iI x1)), (2, .int (iI x2)), (3, .int (iI x3)), (4, .int (iI x4)), (5, .int (iI x5)), (6, .int (iI x6))] rfl 229 rfl ?_
          refine k_goto C dX7_orders_229 183 (by decide) ?_
          refine k_lv C [2, 3, 4, 5, 6, 7, 8, 1, 0] [(0, .ref (qh 0)), (1, .int (iI x1)), (2, .int (iI x2)), (3, .int (iI x3)), (4, .int (iI x4)), (5, .int (iI x5)), (6, .int (iI x6)), (9, .int (iI 0)), (10, .int (iI (x10 + 1)))] rfl ?_
          exact ih x1 x2 x3 x4 x5 x6 0 (x10 + 1) N_h_213 L_h_213 O_h h hK_232
        · have h := hf hc216; clear ht hf
          refine k_iconst C dX7_orders_219 220 rfl ?_
          refine k_goto C dX7_orders_220 224 (by decide) ?_
          refine k_istore C dX7_orders_224 (by decide) [(9, .int (iI 1)), (0, .ref (qh 0)), (1, .int (iI x1)), (2, .int (iI x2)), (3, .int (iI x3)), (4, .int (iI x4)), (5, .int (iI x5)), (6, .int (iI x6)), (10, .int (iI x10))] rfl 226 rfl ?_
          refine k_iinc (j := 8) C dX7_orders_226 rfl (by decide) [(10, .int (iI (x10 + 1))), (9, .int (iI 1)), (0, .ref (qh 0)), (1, .int (iI x1)), (2, .int (iI x2)), (3, .int (iI x3)), (4, .int (iI x4)), (5, .int (iI x5)), (6, .int (iI x6))] rfl 229 rfl ?_
          refine k_goto C dX7_orders_229 183 (by decide) ?_
          refine k_lv C [2, 3, 4, 5, 6, 7, 8, 1, 0] [(0, .ref (qh 0)), (1, .int (iI x1)), (2, .int (iI x2)), (3, .int (iI x3)), (4, .int (iI x4)), (5, .int (iI x5)), (6, .int (iI x6)), (9, .int (iI 1)), (10, .int (iI (x10 + 1)))] rfl ?_
          exact ih x1 x2 x3 x4 x5 x6 1 (x10 + 1) N_h_213 L_h_213 O_h h hK_232
set_option maxHeartbeats 4000000 in
set_option maxRecDepth 20000 in
theorem w_X7_orders_240 {l : Launch} {D : va_G} {cI cJ cZ : ClassId} {A : Nat → Prop} {K : KT} {qh : Nat → Nat} {B_h : gMB} {P_h : gMP} {E_h : gME} {V_h : gMV} {G_h : gMG} {D_h : gMD} {Z_h : gMZ} {R_h : gMR} {I_h : gMI} {Q : Int → gMN → gML → gMO → Prop} {K_271 : Int → Int → Int → Int → Int → Int → gMN → gML → gMO → Prop} (C : KC cX7_orders yX7_orders.cls wsX7_orders rm_X7_orders 11 D (kT cI cJ cZ) A l false (rp_X7_orders cI cJ cZ qh B_h P_h E_h V_h G_h D_h Z_h R_h I_h Q) 0 0 K) : ∀ (n : Nat) (x1 : Int) (x2 : Int) (x3 : Int) (x4 : Int) (x5 : Int) (x6 : Int) (x10 : Int) (N_h : gMN) (L_h : gML) (O_h : gMO), wp_X7_orders_240 K_271 Q n x1 x2 x3 x4 x5 x6 x10 N_h L_h O_h → (∀ (x1 : Int) (x2 : Int) (x3 : Int) (x4 : Int) (x5 : Int) (x6 : Int) (N_h : gMN) (L_h : gML) (O_h : gMO), K_271 x1 x2 x3 x4 x5 x6 N_h L_h O_h → K 0 0 271 [(0, .ref (qh 0)), (1, .int (iI x1)), (2, .int (iI x2)), (3, .int (iI x3)), (4, .int (iI x4)), (5, .int (iI x5)), (6, .int (iI x6))] [] ((wdM cI cJ cZ qh B_h P_h N_h L_h E_h V_h G_h D_h O_h Z_h R_h I_h))) → K 0 0 240 [(0, .ref (qh 0)), (1, .int (iI x1)), (2, .int (iI x2)), (3, .int (iI x3)), (4, .int (iI x4)), (5, .int (iI x5)), (6, .int (iI x6)), (10, .int (iI x10))] [] ((wdM cI cJ cZ qh B_h P_h N_h L_h E_h V_h G_h D_h O_h Z_h R_h I_h)) := by
  intro n
  induction n with
  | zero => intro x1 x2 x3 x4 x5 x6 x10 N_h L_h O_h h; exact h.elim
  | succ n ih =>
    intro x1 x2 x3 x4 x5 x6 x10 N_h L_h O_h h hK_271
    refine k_iload C dX7_orders_240 7 rfl 242 rfl ?_
    refine k_iload_n C dX7_orders_242 2 rfl rfl 243 rfl ?_
    obtain ⟨hr243a, hr243b, h⟩ := h
    obtain ⟨ht, hf⟩ := h
    refine k_icmp_ge C dX7_orders_243 ⟨hr243a, hr243b⟩ 271 246 (by decide) rfl (fun hc243 => ?_) (fun hc243 => ?_)
    · have h := ht hc243; clear ht hf
      refine k_lv C [0, 1, 2, 3, 4, 5, 6] [(0, .ref (qh 0)), (1, .int (iI x1)), (2, .int (iI x2)), (3, .int (iI x3)), (4, .int (iI x4)), (5, .int (iI x5)), (6, .int (iI x6))] rfl ?_
      exact hK_271 x1 x2 x3 x4 x5 x6 N_h L_h O_h h
    · have h := hf hc243; clear ht hf
      refine k_iload C dX7_orders_246 4 rfl 248 rfl ?_
      obtain ⟨hr248a, h⟩ := h
      obtain ⟨ht, hf⟩ := h
      refine k_if_ne C dX7_orders_248 hr248a 271 251 (by decide) rfl (fun hc248 => ?_) (fun hc248 => ?_)
      · have h := ht hc248; clear ht hf
        refine k_lv C [0, 1, 2, 3, 4, 5, 6] [(0, .ref (qh 0)), (1, .int (iI x1)), (2, .int (iI x2)), (3, .int (iI x3)), (4, .int (iI x4)), (5, .int (iI x5)), (6, .int (iI x6))] rfl ?_
        exact hK_271 x1 x2 x3 x4 x5 x6 N_h L_h O_h h
      · have h := hf hc248; clear ht hf
        refine k_aload_n C dX7_orders_251 0 rfl rfl 252 rfl ?_
        refine k_get C dX7_orders_252 0 rfl (ci := 7) rfl hin_X7_orders_7 18 (by decide) (List.mem_of_getElem? (i := 4) rfl) rfl 255 rfl ?_
        refine k_iload C dX7_orders_255 7 rfl 257 rfl ?_
        refine k_aload_n C dX7_orders_257 0 rfl rfl 258 rfl ?_
        refine k_get C dX7_orders_258 0 rfl (ci := 7) rfl hin_X7_orders_7 17 (by decide) (List.mem_of_getElem? (i := 3) rfl) rfl 261 rfl ?_
        refine k_iload C dX7_orders_261 7 rfl 263 rfl ?_
        obtain ⟨hi263, h⟩ := h
        refine k_iaload C dX7_orders_263 11 0 rfl rfl (by decide) hi263 264 rfl ?_
        refine k_iastore C dX7_orders_264 12 0 rfl rfl (by decide) hi263 ((wdM cI cJ cZ qh B_h P_h N_h L_h E_h V_h G_h D_h (O_h.1, aset O_h.2 x10 (O_h.1 x10)) Z_h R_h I_h)) rfl 265 rfl ?_
        refine k_iinc (j := 7) C dX7_orders_265 rfl (by decide) [(10, .int (iI (x10 + 1))), (0, .ref (qh 0)), (1, .int (iI x1)), (2, .int (iI x2)), (3, .int (iI x3)), (4, .int (iI x4)), (5, .int (iI x5)), (6, .int (iI x6))] rfl 268 rfl ?_
        refine k_goto C dX7_orders_268 240 (by decide) ?_
        refine k_lv C [1, 2, 3, 4, 5, 6, 7, 0] [(0, .ref (qh 0)), (1, .int (iI x1)), (2, .int (iI x2)), (3, .int (iI x3)), (4, .int (iI x4)), (5, .int (iI x5)), (6, .int (iI x6)), (10, .int (iI (x10 + 1)))] rfl ?_
        exact ih x1 x2 x3 x4 x5 x6 (x10 + 1) N_h L_h (O_h.1, aset O_h.2 x10 (O_h.1 x10)) h hK_271
set_option maxHeartbeats 4000000 in
set_option maxRecDepth 20000 in
theorem w_X7_orders_232 {l : Launch} {D : va_G} {cI cJ cZ : ClassId} {A : Nat → Prop} {K : KT} {qh : Nat → Nat} {B_h : gMB} {P_h : gMP} {E_h : gME} {V_h : gMV} {G_h : gMG} {D_h : gMD} {Z_h : gMZ} {R_h : gMR} {I_h : gMI} {Q : Int → gMN → gML → gMO → Prop} {K_94 : Int → Int → Int → Int → Int → Int → gMN → gML → gMO → Prop} (C : KC cX7_orders yX7_orders.cls wsX7_orders rm_X7_orders 11 D (kT cI cJ cZ) A l false (rp_X7_orders cI cJ cZ qh B_h P_h E_h V_h G_h D_h Z_h R_h I_h Q) 0 0 K) : ∀ (x1 : Int) (x2 : Int) (x3 : Int) (x4 : Int) (x5 : Int) (x6 : Int) (x9 : Int) (N_h : gMN) (L_h : gML) (O_h : gMO), wp_X7_orders_232 K_94 Q x1 x2 x3 x4 x5 x6 x9 N_h L_h O_h → (∀ (x1 : Int) (x2 : Int) (x3 : Int) (x4 : Int) (x5 : Int) (x6 : Int) (N_h : gMN) (L_h : gML) (O_h : gMO), K_94 x1 x2 x3 x4 x5 x6 N_h L_h O_h → K 0 0 94 [(0, .ref (qh 0)), (1, .int (iI x1)), (2, .int (iI x2)), (3, .int (iI x3)), (4, .int (iI x4)), (5, .int (iI x5)), (6, .int (iI x6))] [] ((wdM cI cJ cZ qh B_h P_h N_h L_h E_h V_h G_h D_h O_h Z_h R_h I_h))) → K 0 0 232 [(0, .ref (qh 0)), (1, .int (iI x1)), (2, .int (iI x2)), (3, .int (iI x3)), (4, .int (iI x4)), (5, .int (iI x5)), (6, .int (iI x6)), (9, .int (iI x9))] [] ((wdM cI cJ cZ qh B_h P_h N_h L_h E_h V_h G_h D_h O_h Z_h R_h I_h)) := by
  intro x1 x2 x3 x4 x5 x6 x9 N_h L_h O_h h hK_94
  refine k_iload C dX7_orders_232 7 rfl 234 rfl ?_
  obtain ⟨hr234a, h⟩ := h
  obtain ⟨ht, hf⟩ := h
  refine k_if_eq C dX7_orders_234 hr234a 274 237 (by decide) rfl (fun hc234 => ?_) (fun hc234 => ?_)
  · have h := ht hc234; clear ht hf
    refine k_iinc (j := 6) C dX7_orders_274 rfl (by decide) [(6, .int (iI (x6 + 1))), (0, .ref (qh 0)), (1, .int (iI x1)), (2, .int (iI x2)), (3, .int (iI x3)), (4, .int (iI x4)), (5, .int (iI x5)), (9, .int (iI x9))] rfl 277 rfl ?_
    refine k_goto C dX7_orders_277 94 (by decide) ?_
    refine k_lv C [1, 2, 3, 4, 5, 6, 0] [(0, .ref (qh 0)), (1, .int (iI x1)), (2, .int (iI x2)), (3, .int (iI x3)), (4, .int (iI x4)), (5, .int (iI x5)), (6, .int (iI (x6 + 1)))] rfl ?_
    exact hK_94 x1 x2 x3 x4 x5 (x6 + 1) N_h L_h O_h h
  · have h := hf hc234; clear ht hf
    refine k_iconst C dX7_orders_237 238 rfl ?_
    refine k_istore C dX7_orders_238 (by decide) [(10, .int (iI 0)), (0, .ref (qh 0)), (1, .int (iI x1)), (2, .int (iI x2)), (3, .int (iI x3)), (4, .int (iI x4)), (5, .int (iI x5)), (6, .int (iI x6)), (9, .int (iI x9))] rfl 240 rfl ?_
    refine k_lv C [1, 2, 3, 4, 5, 6, 7, 0] [(0, .ref (qh 0)), (1, .int (iI x1)), (2, .int (iI x2)), (3, .int (iI x3)), (4, .int (iI x4)), (5, .int (iI x5)), (6, .int (iI x6)), (10, .int (iI 0))] rfl ?_
    obtain ⟨m240, h⟩ := h
    refine w_X7_orders_240 C m240 x1 x2 x3 x4 x5 x6 0 N_h L_h O_h h (fun x1 x2 x3 x4 x5 x6 N_h L_h O_h h => ?_)
    · refine k_iinc (j := 4) C dX7_orders_271 rfl (by decide) [(4, .int (iI (x4 + 1))), (0, .ref (qh 0)), (1, .int (iI x1)), (2, .int (iI x2)), (3, .int (iI x3)), (5, .int (iI x5)), (6, .int (iI x6))] rfl 274 rfl ?_
      refine k_iinc (j := 6) C dX7_orders_274 rfl (by decide) [(6, .int (iI (x6 + 1))), (4, .int (iI (x4 + 1))), (0, .ref (qh 0)), (1, .int (iI x1)), (2, .int (iI x2)), (3, .int (iI x3)), (5, .int (iI x5))] rfl 277 rfl ?_
      refine k_goto C dX7_orders_277 94 (by decide) ?_
      refine k_lv C [2, 3, 4, 5, 1, 6, 0] [(0, .ref (qh 0)), (1, .int (iI x1)), (2, .int (iI x2)), (3, .int (iI x3)), (4, .int (iI (x4 + 1))), (5, .int (iI x5)), (6, .int (iI (x6 + 1)))] rfl ?_
      exact hK_94 x1 x2 x3 (x4 + 1) x5 (x6 + 1) N_h L_h O_h h
set_option maxHeartbeats 4000000 in
set_option maxRecDepth 20000 in
theorem w_X7_orders_169 {l : Launch} {D : va_G} {cI cJ cZ : ClassId} {A : Nat → Prop} {K : KT} {qh : Nat → Nat} {B_h : gMB} {P_h : gMP} {E_h : gME} {V_h : gMV} {G_h : gMG} {D_h : gMD} {Z_h : gMZ} {R_h : gMR} {I_h : gMI} {Q : Int → gMN → gML → gMO → Prop} {K_94 : Int → Int → Int → Int → Int → Int → gMN → gML → gMO → Prop} (C : KC cX7_orders yX7_orders.cls wsX7_orders rm_X7_orders 11 D (kT cI cJ cZ) A l false (rp_X7_orders cI cJ cZ qh B_h P_h E_h V_h G_h D_h Z_h R_h I_h Q) 0 0 K) : ∀ (x1 : Int) (x2 : Int) (x3 : Int) (x4 : Int) (x5 : Int) (x6 : Int) (s0 : Int) (N_h : gMN) (L_h : gML) (O_h : gMO), wp_X7_orders_169 B_h P_h D_h K_94 Q x1 x2 x3 x4 x5 x6 s0 N_h L_h O_h → (∀ (x1 : Int) (x2 : Int) (x3 : Int) (x4 : Int) (x5 : Int) (x6 : Int) (N_h : gMN) (L_h : gML) (O_h : gMO), K_94 x1 x2 x3 x4 x5 x6 N_h L_h O_h → K 0 0 94 [(0, .ref (qh 0)), (1, .int (iI x1)), (2, .int (iI x2)), (3, .int (iI x3)), (4, .int (iI x4)), (5, .int (iI x5)), (6, .int (iI x6))] [] ((wdM cI cJ cZ qh B_h P_h N_h L_h E_h V_h G_h D_h O_h Z_h R_h I_h))) → K 0 0 169 [(0, .ref (qh 0)), (1, .int (iI x1)), (2, .int (iI x2)), (3, .int (iI x3)), (4, .int (iI x4)), (5, .int (iI x5)), (6, .int (iI x6))] [.int (iI s0)] ((wdM cI cJ cZ qh B_h P_h N_h L_h E_h V_h G_h D_h O_h Z_h R_h I_h)) := by
  intro x1 x2 x3 x4 x5 x6 s0 N_h L_h O_h h hK_94
  refine k_istore C dX7_orders_169 (by decide) [(9, .int (iI s0)), (0, .ref (qh 0)), (1, .int (iI x1)), (2, .int (iI x2)), (3, .int (iI x3)), (4, .int (iI x4)), (5, .int (iI x5)), (6, .int (iI x6))] rfl 171 rfl ?_
  refine k_iload C dX7_orders_171 0 rfl 173 rfl ?_
  obtain ⟨hr173a, h⟩ := h
  obtain ⟨ht, hf⟩ := h
  refine k_if_eq C dX7_orders_173 hr173a 180 176 (by decide) rfl (fun hc173 => ?_) (fun hc173 => ?_)
  · have h := ht hc173; clear ht hf
    refine k_iconst C dX7_orders_180 181 rfl ?_
    refine k_istore C dX7_orders_181 (by decide) [(10, .int (iI 0)), (9, .int (iI s0)), (0, .ref (qh 0)), (1, .int (iI x1)), (2, .int (iI x2)), (3, .int (iI x3)), (4, .int (iI x4)), (5, .int (iI x5)), (6, .int (iI x6))] rfl 183 rfl ?_
    refine k_lv C [2, 3, 4, 5, 6, 7, 8, 1, 0] [(0, .ref (qh 0)), (1, .int (iI x1)), (2, .int (iI x2)), (3, .int (iI x3)), (4, .int (iI x4)), (5, .int (iI x5)), (6, .int (iI x6)), (9, .int (iI s0)), (10, .int (iI 0))] rfl ?_
    obtain ⟨m183, h⟩ := h
    refine w_X7_orders_183 C m183 x1 x2 x3 x4 x5 x6 s0 0 N_h L_h O_h h (fun x1 x2 x3 x4 x5 x6 x9 N_h L_h O_h h => ?_)
    · refine w_X7_orders_232 C x1 x2 x3 x4 x5 x6 x9 N_h L_h O_h h hK_94
  · have h := hf hc173; clear ht hf
    refine k_aload_n C dX7_orders_176 1 rfl rfl 177 rfl ?_
    have hM := c_X7_asNow (l := l) (D := D) (cI := cI) (cJ := cJ) (cZ := cZ) qh B_h P_h N_h L_h E_h V_h G_h D_h O_h Z_h R_h I_h _ h
    refine k_callV C dX7_orders_177 hM gX7_orders_X7_asNow rfl sg_X7_asNow 7 rfl rfl rfl (Nat.le_of_ble_eq_true rfl) ⟨⟨rfl, rfl⟩, by decide, by decide⟩ ⟨Nat.le_refl 0, Nat.le_refl 0⟩ [0, 1, 2, 3, 4, 5, 6, 7, 8, 9, 10, 11, 12, 13, 14, 15, 16] [] rfl rfl rfl rfl (by decide) 0 0 ⟨rfl, rfl⟩ 180 rfl (fun v w1 hq177 => ?_)
    obtain ⟨N_h_177, rfl, rfl, h⟩ := hq177
    refine k_perm C [0, 1, 2, 3, 4, 5, 6, 7, 8, 9, 10, 11, 12, 13, 14, 15, 16] [] ((wdM cI cJ cZ qh B_h P_h N_h_177 L_h E_h V_h G_h D_h O_h Z_h R_h I_h)) rfl rfl rfl ?_
    refine k_iconst C dX7_orders_180 181 rfl ?_
    refine k_istore C dX7_orders_181 (by decide) [(10, .int (iI 0)), (9, .int (iI s0)), (0, .ref (qh 0)), (1, .int (iI x1)), (2, .int (iI x2)), (3, .int (iI x3)), (4, .int (iI x4)), (5, .int (iI x5)), (6, .int (iI x6))] rfl 183 rfl ?_
    refine k_lv C [2, 3, 4, 5, 6, 7, 8, 1, 0] [(0, .ref (qh 0)), (1, .int (iI x1)), (2, .int (iI x2)), (3, .int (iI x3)), (4, .int (iI x4)), (5, .int (iI x5)), (6, .int (iI x6)), (9, .int (iI s0)), (10, .int (iI 0))] rfl ?_
    obtain ⟨m183, h⟩ := h
    refine w_X7_orders_183 C m183 x1 x2 x3 x4 x5 x6 s0 0 N_h_177 L_h O_h h (fun x1 x2 x3 x4 x5 x6 x9 N_h L_h O_h h => ?_)
    · refine w_X7_orders_232 C x1 x2 x3 x4 x5 x6 x9 N_h L_h O_h h hK_94
set_option maxHeartbeats 4000000 in
set_option maxRecDepth 20000 in
theorem w_X7_orders_94 {l : Launch} {D : va_G} {cI cJ cZ : ClassId} {A : Nat → Prop} {K : KT} {qh : Nat → Nat} {B_h : gMB} {P_h : gMP} {E_h : gME} {V_h : gMV} {G_h : gMG} {D_h : gMD} {Z_h : gMZ} {R_h : gMR} {I_h : gMI} {Q : Int → gMN → gML → gMO → Prop} {K_280 : Int → Int → Int → gMN → gML → gMO → Prop} (C : KC cX7_orders yX7_orders.cls wsX7_orders rm_X7_orders 11 D (kT cI cJ cZ) A l false (rp_X7_orders cI cJ cZ qh B_h P_h E_h V_h G_h D_h Z_h R_h I_h Q) 0 0 K) : ∀ (n : Nat) (x1 : Int) (x2 : Int) (x3 : Int) (x4 : Int) (x5 : Int) (x6 : Int) (N_h : gMN) (L_h : gML) (O_h : gMO), wp_X7_orders_94 B_h P_h D_h K_280 Q n x1 x2 x3 x4 x5 x6 N_h L_h O_h → (∀ (x1 : Int) (x2 : Int) (x4 : Int) (N_h : gMN) (L_h : gML) (O_h : gMO), K_280 x1 x2 x4 N_h L_h O_h → K 0 0 280 [(0, .ref (qh 0)), (1, .int (iI x1)), (2, .int (iI x2)), (4, .int (iI x4))] [] ((wdM cI cJ cZ qh B_h P_h N_h L_h E_h V_h G_h D_h O_h Z_h R_h I_h))) → K 0 0 94 [(0, .ref (qh 0)), (1, .int (iI x1)), (2, .int (iI x2)), (3, .int (iI x3)), (4, .int (iI x4)), (5, .int (iI x5)), (6, .int (iI x6))] [] ((wdM cI cJ cZ qh B_h P_h N_h L_h E_h V_h G_h D_h O_h Z_h R_h I_h)) := by
  intro n
  induction n with
  | zero => intro x1 x2 x3 x4 x5 x6 N_h L_h O_h h; exact h.elim
  | succ n ih =>
    intro x1 x2 x3 x4 x5 x6 N_h L_h O_h h hK_280
    refine k_iload C dX7_orders_94 6 rfl 96 rfl ?_
    refine k_iload_n C dX7_orders_96 3 rfl rfl 97 rfl ?_
    obtain ⟨hr97a, hr97b, h⟩ := h
    obtain ⟨ht, hf⟩ := h
    refine k_icmp_ge C dX7_orders_97 ⟨hr97a, hr97b⟩ 280 100 (by decide) rfl (fun hc97 => ?_) (fun hc97 => ?_)
    · have h := ht hc97; clear ht hf
      refine k_lv C [0, 1, 2, 4] [(0, .ref (qh 0)), (1, .int (iI x1)), (2, .int (iI x2)), (4, .int (iI x4))] rfl ?_
      exact hK_280 x1 x2 x4 N_h L_h O_h h
    · have h := hf hc97; clear ht hf
      refine k_iload_n C dX7_orders_100 3 rfl rfl 101 rfl ?_
      refine k_istore C dX7_orders_101 (by decide) [(7, .int (iI x3)), (0, .ref (qh 0)), (1, .int (iI x1)), (2, .int (iI x2)), (3, .int (iI x3)), (4, .int (iI x4)), (5, .int (iI x5)), (6, .int (iI x6))] rfl 103 rfl ?_
      refine k_iconst C dX7_orders_103 104 rfl ?_
      refine k_istore C dX7_orders_104 (by decide) [(8, .int (iI 0)), (7, .int (iI x3)), (0, .ref (qh 0)), (1, .int (iI x1)), (2, .int (iI x2)), (3, .int (iI x3)), (4, .int (iI x4)), (5, .int (iI x5)), (6, .int (iI x6))] rfl 106 rfl ?_
      refine k_iconst C dX7_orders_106 107 rfl ?_
      refine k_istore C dX7_orders_107 (by decide) [(9, .int (iI 0)), (8, .int (iI 0)), (7, .int (iI x3)), (0, .ref (qh 0)), (1, .int (iI x1)), (2, .int (iI x2)), (3, .int (iI x3)), (4, .int (iI x4)), (5, .int (iI x5)), (6, .int (iI x6))] rfl 109 rfl ?_
      refine k_lv C [3, 4, 5, 6, 7, 8, 9, 2, 1, 0] [(0, .ref (qh 0)), (1, .int (iI x1)), (2, .int (iI x2)), (3, .int (iI x3)), (4, .int (iI x4)), (5, .int (iI x5)), (6, .int (iI x6)), (7, .int (iI x3)), (8, .int (iI 0)), (9, .int (iI 0))] rfl ?_
      obtain ⟨m109, h⟩ := h
      refine w_X7_orders_109 C m109 x1 x2 x3 x4 x5 x6 x3 0 0 N_h L_h O_h h (fun x1 x2 x3 x4 x5 x6 x8 N_h L_h O_h h => ?_)
      · refine k_iload C dX7_orders_157 7 rfl 159 rfl ?_
        refine k_iload C dX7_orders_159 5 rfl 161 rfl ?_
        obtain ⟨hr161a, hr161b, h⟩ := h
        obtain ⟨ht, hf⟩ := h
        refine k_icmp_ne C dX7_orders_161 ⟨hr161a, hr161b⟩ 168 164 (by decide) rfl (fun hc161 => ?_) (fun hc161 => ?_)
        · have h := ht hc161; clear ht hf
          refine k_iconst C dX7_orders_168 169 rfl ?_
          refine k_lv C [0, 1, 2, 3, 4, 5, 6] [(0, .ref (qh 0)), (1, .int (iI x1)), (2, .int (iI x2)), (3, .int (iI x3)), (4, .int (iI x4)), (5, .int (iI x5)), (6, .int (iI x6))] rfl ?_
          refine w_X7_orders_169 C x1 x2 x3 x4 x5 x6 0 N_h L_h O_h h (fun x1 x2 x3 x4 x5 x6 N_h L_h O_h h => ?_)
          · exact ih x1 x2 x3 x4 x5 x6 N_h L_h O_h h hK_280
        · have h := hf hc161; clear ht hf
          refine k_iconst C dX7_orders_164 165 rfl ?_
          refine k_goto C dX7_orders_165 169 (by decide) ?_
          refine k_lv C [0, 1, 2, 3, 4, 5, 6] [(0, .ref (qh 0)), (1, .int (iI x1)), (2, .int (iI x2)), (3, .int (iI x3)), (4, .int (iI x4)), (5, .int (iI x5)), (6, .int (iI x6))] rfl ?_
          refine w_X7_orders_169 C x1 x2 x3 x4 x5 x6 1 N_h L_h O_h h (fun x1 x2 x3 x4 x5 x6 N_h L_h O_h h => ?_)
          · exact ih x1 x2 x3 x4 x5 x6 N_h L_h O_h h hK_280
set_option maxHeartbeats 4000000 in
set_option maxRecDepth 20000 in
theorem c_X7_orders {l : Launch} {D : va_G} {cI cJ cZ : ClassId} (qh : Nat → Nat) (B_h : gMB) (P_h : gMP) (N_h : gMN) (L_h : gML) (E_h : gME) (V_h : gMV) (G_h : gMG) (D_h : gMD) (O_h : gMO) (Z_h : gMZ) (R_h : gMR) (I_h : gMI) (x1 : Int) (Q : Int → gMN → gML → gMO → Prop) (h : wp_X7_orders B_h P_h N_h L_h D_h O_h x1 Q) : KM l D (kT cI cJ cZ) 0 0 yX7_orders wsX7_orders rm_X7_orders [.ref (qh 0), .int (iI x1)] ((wdM cI cJ cZ qh B_h P_h N_h L_h E_h V_h G_h D_h O_h Z_h R_h I_h)) (rp_X7_orders cI cJ cZ qh B_h P_h E_h V_h G_h D_h Z_h R_h I_h Q) := by
  refine KM_intro (lv := [(0, .ref (qh 0)), (1, .int (iI x1))]) false rfl (by decide) (Nat.le_of_ble_eq_true rfl) rfl (fun h => absurd h (by decide)) (fun v ws hq => by obtain ⟨r, N_h, L_h, O_h, rfl, rfl, _⟩ := hq; exact Or.inr (Or.inl ⟨rfl, _, rfl⟩)) (fun A K C => ?_)
  refine k_aload_n C dX7_orders_0 0 rfl rfl 1 rfl ?_
  have hM := c_X7_arePuts (l := l) (D := D) (cI := cI) (cJ := cJ) (cZ := cZ) qh B_h P_h N_h L_h E_h V_h G_h D_h O_h Z_h R_h I_h _ h
  refine k_callV C dX7_orders_1 hM gX7_orders_X7_arePuts rfl sg_X7_arePuts 7 rfl rfl rfl (Nat.le_of_ble_eq_true rfl) ⟨⟨rfl, rfl⟩, by decide, by decide⟩ ⟨Nat.le_refl 0, Nat.le_refl 0⟩ [0, 1, 2, 3, 4, 5, 6, 7, 8, 9, 10, 11, 12, 13, 14, 15, 16] [] rfl rfl rfl rfl (by decide) 0 0 ⟨rfl, rfl⟩ 4 rfl (fun v w1 hq1 => ?_)
  obtain ⟨r1, rfl, rfl, hb1, h⟩ := hq1
  refine k_perm C [0, 1, 2, 3, 4, 5, 6, 7, 8, 9, 10, 11, 12, 13, 14, 15, 16] [.int (iI r1)] ((wdM cI cJ cZ qh B_h P_h N_h L_h E_h V_h G_h D_h O_h Z_h R_h I_h)) rfl rfl rfl ?_
  obtain ⟨ht, hf⟩ := h
  refine k_if_ne C dX7_orders_4 (by rcases hb1 with rfl | rfl <;> decide) 10 7 (by decide) rfl (fun hc4 => ?_) (fun hc4 => ?_)
  · have h := ht hc4; clear ht hf
    refine k_aload_n C dX7_orders_10 0 rfl rfl 11 rfl ?_
    refine k_get C dX7_orders_11 0 rfl (ci := 7) rfl hin_X7_orders_7 9 (by decide) (List.mem_of_getElem? (i := 1) rfl) rfl 14 rfl ?_
    refine k_bipush C dX7_orders_14 (by decide) 16 rfl ?_
    obtain ⟨hr16a, h⟩ := h
    obtain ⟨ht, hf⟩ := h
    refine k_icmp_le C dX7_orders_16 ⟨hr16a, (by decide)⟩ 22 19 (by decide) rfl (fun hc16 => ?_) (fun hc16 => ?_)
    · have h := ht hc16; clear ht hf
      refine k_aload_n C dX7_orders_22 0 rfl rfl 23 rfl ?_
      refine k_get C dX7_orders_23 0 rfl (ci := 7) rfl hin_X7_orders_7 9 (by decide) (List.mem_of_getElem? (i := 1) rfl) rfl 26 rfl ?_
      refine k_iconst C dX7_orders_26 27 rfl ?_
      refine k_idiv C dX7_orders_27 ⟨hr16a, (by decide), (by decide)⟩ 28 rfl ?_
      refine k_istore_n C dX7_orders_28 rfl (by decide) [(2, .int (iI (D_h.1.tdiv 2))), (0, .ref (qh 0)), (1, .int (iI x1))] rfl 29 rfl ?_
      refine k_iconst C dX7_orders_29 30 rfl ?_
      refine k_istore_n C dX7_orders_30 rfl (by decide) [(3, .int (iI 1)), (2, .int (iI (D_h.1.tdiv 2))), (0, .ref (qh 0)), (1, .int (iI x1))] rfl 31 rfl ?_
      refine k_iconst C dX7_orders_31 32 rfl ?_
      refine k_istore C dX7_orders_32 (by decide) [(4, .int (iI 0)), (3, .int (iI 1)), (2, .int (iI (D_h.1.tdiv 2))), (0, .ref (qh 0)), (1, .int (iI x1))] rfl 34 rfl ?_
      refine k_lv C [3, 4, 2, 1, 0] [(0, .ref (qh 0)), (1, .int (iI x1)), (2, .int (iI (D_h.1.tdiv 2))), (3, .int (iI 1)), (4, .int (iI 0))] rfl ?_
      obtain ⟨m34, h⟩ := h
      refine w_X7_orders_34 C m34 x1 (D_h.1.tdiv 2) 1 0 N_h L_h O_h h (fun x1 x2 x3 N_h L_h O_h h => ?_)
      · refine k_iconst C dX7_orders_51 52 rfl ?_
        refine k_istore C dX7_orders_52 (by decide) [(4, .int (iI 0)), (0, .ref (qh 0)), (1, .int (iI x1)), (2, .int (iI x2)), (3, .int (iI x3))] rfl 54 rfl ?_
        refine k_iconst C dX7_orders_54 55 rfl ?_
        refine k_istore C dX7_orders_55 (by decide) [(5, .int (iI 0)), (4, .int (iI 0)), (0, .ref (qh 0)), (1, .int (iI x1)), (2, .int (iI x2)), (3, .int (iI x3))] rfl 57 rfl ?_
        refine k_iconst C dX7_orders_57 58 rfl ?_
        refine k_istore C dX7_orders_58 (by decide) [(6, .int (iI 0)), (5, .int (iI 0)), (4, .int (iI 0)), (0, .ref (qh 0)), (1, .int (iI x1)), (2, .int (iI x2)), (3, .int (iI x3))] rfl 60 rfl ?_
        refine k_lv C [3, 4, 5, 6, 2, 1, 0] [(0, .ref (qh 0)), (1, .int (iI x1)), (2, .int (iI x2)), (3, .int (iI x3)), (4, .int (iI 0)), (5, .int (iI 0)), (6, .int (iI 0))] rfl ?_
        obtain ⟨m60, h⟩ := h
        refine w_X7_orders_60 C m60 x1 x2 x3 0 0 0 N_h L_h O_h h (fun x1 x2 x3 x4 x5 N_h L_h O_h h => ?_)
        · refine k_iconst C dX7_orders_91 92 rfl ?_
          refine k_istore C dX7_orders_92 (by decide) [(6, .int (iI 0)), (0, .ref (qh 0)), (1, .int (iI x1)), (2, .int (iI x2)), (3, .int (iI x3)), (4, .int (iI x4)), (5, .int (iI x5))] rfl 94 rfl ?_
          refine k_lv C [1, 2, 3, 4, 5, 6, 0] [(0, .ref (qh 0)), (1, .int (iI x1)), (2, .int (iI x2)), (3, .int (iI x3)), (4, .int (iI x4)), (5, .int (iI x5)), (6, .int (iI 0))] rfl ?_
          obtain ⟨m94, h⟩ := h
          refine w_X7_orders_94 C m94 x1 x2 x3 x4 x5 0 N_h L_h O_h h (fun x1 x2 x4 N_h L_h O_h h => ?_)
          · refine k_iload_n C dX7_orders_280 1 rfl rfl 281 rfl ?_
            refine k_iconst C dX7_orders_281 282 rfl ?_
            obtain ⟨hr282a, h⟩ := h
            obtain ⟨ht, hf⟩ := h
            refine k_icmp_ne C dX7_orders_282 ⟨hr282a, (by decide)⟩ 288 285 (by decide) rfl (fun hc282 => ?_) (fun hc282 => ?_)
            · have h := ht hc282; clear ht hf
              refine k_iload C dX7_orders_288 3 rfl 290 rfl ?_
              obtain ⟨hr290a, h⟩ := h
              obtain ⟨ht, hf⟩ := h
              refine k_if_le C dX7_orders_290 hr290a 313 293 (by decide) rfl (fun hc290 => ?_) (fun hc290 => ?_)
              · have h := ht hc290; clear ht hf
                refine k_bipush C dX7_orders_313 (by decide) 315 rfl ?_
                exact k_iret C dX7_orders_315 ⟨(-6), N_h, L_h, O_h, rfl, rfl, h⟩
              · have h := hf hc290; clear ht hf
                refine k_iload_n C dX7_orders_293 1 rfl rfl 294 rfl ?_
                refine k_iconst C dX7_orders_294 295 rfl ?_
                refine k_iload_n C dX7_orders_295 2 rfl rfl 296 rfl ?_
                refine k_iconst C dX7_orders_296 297 rfl ?_
                refine k_isub C dX7_orders_297 298 rfl ?_
                have hM := c_X7_in (l := l) (D := D) (cI := cI) (cJ := cJ) (cZ := cZ) x1 0 (x2 - 1) _ h
                refine k_callS C dX7_orders_298 hM gX7_orders_X7_in rfl sg_X7_in rfl (Nat.le_of_ble_eq_true rfl) ⟨⟨rfl, rfl⟩, by decide, by decide⟩ ⟨Nat.le_refl 0, Nat.le_refl 0⟩ [] [0, 1, 2, 3, 4, 5, 6, 7, 8, 9, 10, 11, 12, 13, 14, 15, 16] rfl rfl rfl rfl (by decide) 0 0 ⟨rfl, rfl⟩ 301 rfl (fun v w1 hq298 => ?_)
                obtain ⟨r298, rfl, rfl, hb298, h⟩ := hq298
                refine k_perm C [0, 1, 2, 3, 4, 5, 6, 7, 8, 9, 10, 11, 12, 13, 14, 15, 16] [.int (iI r298)] ((wdM cI cJ cZ qh B_h P_h N_h L_h E_h V_h G_h D_h O_h Z_h R_h I_h)) rfl rfl rfl ?_
                obtain ⟨ht, hf⟩ := h
                refine k_if_eq C dX7_orders_301 (by rcases hb298 with rfl | rfl <;> decide) 313 304 (by decide) rfl (fun hc301 => ?_) (fun hc301 => ?_)
                · have h := ht hc301; clear ht hf
                  refine k_bipush C dX7_orders_313 (by decide) 315 rfl ?_
                  exact k_iret C dX7_orders_315 ⟨(-6), N_h, L_h, O_h, rfl, rfl, h⟩
                · have h := hf hc301; clear ht hf
                  refine k_aload_n C dX7_orders_304 0 rfl rfl 305 rfl ?_
                  refine k_get C dX7_orders_305 0 rfl (ci := 7) rfl hin_X7_orders_7 18 (by decide) (List.mem_of_getElem? (i := 4) rfl) rfl 308 rfl ?_
                  refine k_iload_n C dX7_orders_308 1 rfl rfl 309 rfl ?_
                  obtain ⟨hi309, h⟩ := h
                  refine k_iaload C dX7_orders_309 12 0 rfl rfl (by decide) hi309 310 rfl ?_
                  refine k_goto C dX7_orders_310 315 (by decide) ?_
                  exact k_iret C dX7_orders_315 ⟨O_h.2 x1, N_h, L_h, O_h, rfl, rfl, h⟩
            · have h := hf hc282; clear ht hf
              refine k_iload C dX7_orders_285 3 rfl 287 rfl ?_
              exact k_iret C dX7_orders_287 ⟨x4, N_h, L_h, O_h, rfl, rfl, h⟩
    · have h := hf hc16; clear ht hf
      refine k_bipush C dX7_orders_19 (by decide) 21 rfl ?_
      exact k_iret C dX7_orders_21 ⟨(-4), N_h, L_h, O_h, rfl, rfl, h⟩
  · have h := hf hc4; clear ht hf
    refine k_bipush C dX7_orders_7 (by decide) 9 rfl ?_
    exact k_iret C dX7_orders_9 ⟨(-5), N_h, L_h, O_h, rfl, rfl, h⟩

/-! X7_outside -/
abbrev rm_X7_outside : Room := { frames := 1, cells := 0, slots := 0, locals := 21 }
theorem sg_X7_outside : yX7_outside.cls ≠ "java/lang/invoke/MethodHandle" ∧ yX7_outside.cls ≠ "java/lang/invoke/VarHandle" ∧ (parseMethodDescriptor yX7_outside.desc).map (fun d => d.parameters.length) = some 0 := by decide +kernel
theorem hin_X7_outside_7 : ∀ w ∈ wsX70, w ∈ wsX7_outside := fun _ h => List.mem_cons_of_mem _ (List.mem_append_right _ h)
def rp_X7_outside (cI cJ cZ : ClassId) (qh : Nat → Nat) (B_h : gMB) (P_h : gMP) (N_h : gMN) (L_h : gML) (E_h : gME) (V_h : gMV) (G_h : gMG) (D_h : gMD) (O_h : gMO) (Z_h : gMZ) (R_h : gMR) (I_h : gMI) (Q : Int → Prop) : Option Value → va_W → Prop := fun v w1 => ∃ (r : Int), v = some (.int (iI r)) ∧ w1 = (wdM cI cJ cZ qh B_h P_h N_h L_h E_h V_h G_h D_h O_h Z_h R_h I_h) ∧ Q r
def wp_X7_outside_4 (B_h : gMB) (P_h : gMP) (K_46 : Int → Prop)  (Q : Int → Prop) : Nat → Int → Int → Prop
  | 0, _, _ => False
  | n4 + 1, x1, x2 =>
    rI x2 ∧ ((10 ≤ x2 → K_46 x1) ∧ (¬ (10 ≤ x2) → wp_X7_has B_h.2.1 x2 (fun (r16 : Int) => ((r16 = 0 → wp_X7_outside_4 B_h P_h K_46 Q n4 (ior x1 0) (x2 + 1)) ∧ (¬ (r16 = 0) → (0 ≤ x2 ∧ x2 < 10) ∧ rI (P_h.1 x2) ∧ ((0 ≤ (P_h.1 x2) → wp_X7_outside_4 B_h P_h K_46 Q n4 (ior x1 0) (x2 + 1)) ∧ (¬ (0 ≤ (P_h.1 x2)) → wp_X7_outside_4 B_h P_h K_46 Q n4 (ior x1 (ishl 1 x2)) (x2 + 1))))))))
def wp_X7_outside (B_h : gMB) (P_h : gMP) (Q : Int → Prop) : Prop :=
    ∃ m4, wp_X7_outside_4 B_h P_h (fun (x1 : Int) => Q x1) Q m4 0 0
set_option maxHeartbeats 4000000 in
set_option maxRecDepth 20000 in
theorem w_X7_outside_4 {l : Launch} {D : va_G} {cI cJ cZ : ClassId} {A : Nat → Prop} {K : KT} {qh : Nat → Nat} {B_h : gMB} {P_h : gMP} {N_h : gMN} {L_h : gML} {E_h : gME} {V_h : gMV} {G_h : gMG} {D_h : gMD} {O_h : gMO} {Z_h : gMZ} {R_h : gMR} {I_h : gMI} {Q : Int → Prop} {K_46 : Int → Prop} (C : KC cX7_outside yX7_outside.cls wsX7_outside rm_X7_outside 3 D (kT cI cJ cZ) A l false (rp_X7_outside cI cJ cZ qh B_h P_h N_h L_h E_h V_h G_h D_h O_h Z_h R_h I_h Q) 0 0 K) : ∀ (n : Nat) (x1 : Int) (x2 : Int), wp_X7_outside_4 B_h P_h K_46 Q n x1 x2 → (∀ (x1 : Int), K_46 x1 → K 0 0 46 [(1, .int (iI x1))] [] ((wdM cI cJ cZ qh B_h P_h N_h L_h E_h V_h G_h D_h O_h Z_h R_h I_h))) → K 0 0 4 [(0, .ref (qh 0)), (1, .int (iI x1)), (2, .int (iI x2))] [] ((wdM cI cJ cZ qh B_h P_h N_h L_h E_h V_h G_h D_h O_h Z_h R_h I_h)) := by
  intro n
  induction n with
  | zero => intro x1 x2 h; exact h.elim
  | succ n ih =>
    intro x1 x2 h hK_46
    refine k_iload_n C dX7_outside_4 2 rfl rfl 5 rfl ?_
    refine k_bipush C dX7_outside_5 (by decide) 7 rfl ?_
    obtain ⟨hr7a, h⟩ := h
    obtain ⟨ht, hf⟩ := h
    refine k_icmp_ge C dX7_outside_7 ⟨hr7a, (by decide)⟩ 46 10 (by decide) rfl (fun hc7 => ?_) (fun hc7 => ?_)
    · have h := ht hc7; clear ht hf
      refine k_lv C [1] [(1, .int (iI x1))] rfl ?_
      exact hK_46 x1 h
    · have h := hf hc7; clear ht hf
      refine k_iload_n C dX7_outside_10 1 rfl rfl 11 rfl ?_
      refine k_aload_n C dX7_outside_11 0 rfl rfl 12 rfl ?_
      refine k_get C dX7_outside_12 0 rfl (ci := 7) rfl hin_X7_outside_7 1 (by decide) (List.mem_of_getElem? (i := 1) rfl) rfl 15 rfl ?_
      refine k_iload_n C dX7_outside_15 2 rfl rfl 16 rfl ?_
      have hM := c_X7_has (l := l) (D := D) (cI := cI) (cJ := cJ) (cZ := cZ) B_h.2.1 x2 _ h
      refine k_callS C dX7_outside_16 hM gX7_outside_X7_has rfl sg_X7_has rfl (Nat.le_of_ble_eq_true rfl) ⟨⟨rfl, rfl⟩, by decide, by decide⟩ ⟨Nat.le_refl 0, Nat.le_refl 0⟩ [] [0, 1, 2, 3, 4, 5, 6, 7, 8, 9, 10, 11, 12, 13, 14, 15, 16] rfl rfl rfl rfl (by decide) 0 0 ⟨rfl, rfl⟩ 19 rfl (fun v w1 hq16 => ?_)
      obtain ⟨r16, rfl, rfl, hb16, h⟩ := hq16
      refine k_perm C [0, 1, 2, 3, 4, 5, 6, 7, 8, 9, 10, 11, 12, 13, 14, 15, 16] [.int (iI r16), .int (iI x1)] ((wdM cI cJ cZ qh B_h P_h N_h L_h E_h V_h G_h D_h O_h Z_h R_h I_h)) rfl rfl rfl ?_
      obtain ⟨ht, hf⟩ := h
      refine k_if_eq C dX7_outside_19 (by rcases hb16 with rfl | rfl <;> decide) 37 22 (by decide) rfl (fun hc19 => ?_) (fun hc19 => ?_)
      · have h := ht hc19; clear ht hf
        refine k_iconst C dX7_outside_37 38 rfl ?_
        refine k_ior C dX7_outside_38 39 rfl ?_
        refine k_istore_n C dX7_outside_39 rfl (by decide) [(1, .int (iI (ior x1 0))), (0, .ref (qh 0)), (2, .int (iI x2))] rfl 40 rfl ?_
        refine k_iinc (j := 2) C dX7_outside_40 rfl (by decide) [(2, .int (iI (x2 + 1))), (1, .int (iI (ior x1 0))), (0, .ref (qh 0))] rfl 43 rfl ?_
        refine k_goto C dX7_outside_43 4 (by decide) ?_
        refine k_lv C [2, 1, 0] [(0, .ref (qh 0)), (1, .int (iI (ior x1 0))), (2, .int (iI (x2 + 1)))] rfl ?_
        exact ih (ior x1 0) (x2 + 1) h hK_46
      · have h := hf hc19; clear ht hf
        refine k_aload_n C dX7_outside_22 0 rfl rfl 23 rfl ?_
        refine k_get C dX7_outside_23 0 rfl (ci := 7) rfl hin_X7_outside_7 5 (by decide) (List.mem_of_getElem? (i := 2) rfl) rfl 26 rfl ?_
        refine k_iload_n C dX7_outside_26 2 rfl rfl 27 rfl ?_
        obtain ⟨hi27, h⟩ := h
        refine k_iaload C dX7_outside_27 4 0 rfl rfl (by decide) hi27 28 rfl ?_
        obtain ⟨hr28a, h⟩ := h
        obtain ⟨ht, hf⟩ := h
        refine k_if_ge C dX7_outside_28 hr28a 37 31 (by decide) rfl (fun hc28 => ?_) (fun hc28 => ?_)
        · have h := ht hc28; clear ht hf
          refine k_iconst C dX7_outside_37 38 rfl ?_
          refine k_ior C dX7_outside_38 39 rfl ?_
          refine k_istore_n C dX7_outside_39 rfl (by decide) [(1, .int (iI (ior x1 0))), (0, .ref (qh 0)), (2, .int (iI x2))] rfl 40 rfl ?_
          refine k_iinc (j := 2) C dX7_outside_40 rfl (by decide) [(2, .int (iI (x2 + 1))), (1, .int (iI (ior x1 0))), (0, .ref (qh 0))] rfl 43 rfl ?_
          refine k_goto C dX7_outside_43 4 (by decide) ?_
          refine k_lv C [2, 1, 0] [(0, .ref (qh 0)), (1, .int (iI (ior x1 0))), (2, .int (iI (x2 + 1)))] rfl ?_
          exact ih (ior x1 0) (x2 + 1) h hK_46
        · have h := hf hc28; clear ht hf
          refine k_iconst C dX7_outside_31 32 rfl ?_
          refine k_iload_n C dX7_outside_32 2 rfl rfl 33 rfl ?_
          refine k_ishl C dX7_outside_33 34 rfl ?_
          refine k_goto C dX7_outside_34 38 (by decide) ?_
          refine k_ior C dX7_outside_38 39 rfl ?_
          refine k_istore_n C dX7_outside_39 rfl (by decide) [(1, .int (iI (ior x1 (ishl 1 x2)))), (0, .ref (qh 0)), (2, .int (iI x2))] rfl 40 rfl ?_
          refine k_iinc (j := 2) C dX7_outside_40 rfl (by decide) [(2, .int (iI (x2 + 1))), (1, .int (iI (ior x1 (ishl 1 x2)))), (0, .ref (qh 0))] rfl 43 rfl ?_
          refine k_goto C dX7_outside_43 4 (by decide) ?_
          refine k_lv C [2, 1, 0] [(0, .ref (qh 0)), (1, .int (iI (ior x1 (ishl 1 x2)))), (2, .int (iI (x2 + 1)))] rfl ?_
          exact ih (ior x1 (ishl 1 x2)) (x2 + 1) h hK_46
set_option maxHeartbeats 4000000 in
set_option maxRecDepth 20000 in
theorem c_X7_outside {l : Launch} {D : va_G} {cI cJ cZ : ClassId} (qh : Nat → Nat) (B_h : gMB) (P_h : gMP) (N_h : gMN) (L_h : gML) (E_h : gME) (V_h : gMV) (G_h : gMG) (D_h : gMD) (O_h : gMO) (Z_h : gMZ) (R_h : gMR) (I_h : gMI) (Q : Int → Prop) (h : wp_X7_outside B_h P_h Q) : KM l D (kT cI cJ cZ) 0 0 yX7_outside wsX7_outside rm_X7_outside [.ref (qh 0)] ((wdM cI cJ cZ qh B_h P_h N_h L_h E_h V_h G_h D_h O_h Z_h R_h I_h)) (rp_X7_outside cI cJ cZ qh B_h P_h N_h L_h E_h V_h G_h D_h O_h Z_h R_h I_h Q) := by
  refine KM_intro (lv := [(0, .ref (qh 0))]) false rfl (by decide) (Nat.le_of_ble_eq_true rfl) rfl (fun h => absurd h (by decide)) (fun v ws hq => by obtain ⟨r, rfl, rfl, _⟩ := hq; exact Or.inr (Or.inl ⟨rfl, _, rfl⟩)) (fun A K C => ?_)
  refine k_iconst C dX7_outside_0 1 rfl ?_
  refine k_istore_n C dX7_outside_1 rfl (by decide) [(1, .int (iI 0)), (0, .ref (qh 0))] rfl 2 rfl ?_
  refine k_iconst C dX7_outside_2 3 rfl ?_
  refine k_istore_n C dX7_outside_3 rfl (by decide) [(2, .int (iI 0)), (1, .int (iI 0)), (0, .ref (qh 0))] rfl 4 rfl ?_
  refine k_lv C [2, 1, 0] [(0, .ref (qh 0)), (1, .int (iI 0)), (2, .int (iI 0))] rfl ?_
  obtain ⟨m4, h⟩ := h
  refine w_X7_outside_4 C m4 0 0 h (fun x1 h => ?_)
  · refine k_iload_n C dX7_outside_46 0 rfl rfl 47 rfl ?_
    exact k_iret C dX7_outside_47 ⟨x1, rfl, rfl, h⟩

/-! X7_putsBy -/
abbrev rm_X7_putsBy : Room := { frames := 6, cells := 0, slots := 0, locals := 141 }
theorem sg_X7_putsBy : yX7_putsBy.cls ≠ "java/lang/invoke/MethodHandle" ∧ yX7_putsBy.cls ≠ "java/lang/invoke/VarHandle" ∧ (parseMethodDescriptor yX7_putsBy.desc).map (fun d => d.parameters.length) = some 2 := by decide +kernel
theorem hin_X7_putsBy_7 : ∀ w ∈ wsX70, w ∈ wsX7_putsBy := fun _ h => List.mem_cons_of_mem _ (List.mem_append_right _ h)
def rp_X7_putsBy (cI cJ cZ : ClassId) (qh : Nat → Nat) (B_h : gMB) (P_h : gMP) (E_h : gME) (V_h : gMV) (G_h : gMG) (D_h : gMD) (O_h : gMO) (R_h : gMR) (I_h : gMI) (Q : Int → gMN → gML → gMZ → Prop) : Option Value → va_W → Prop := fun v w1 => ∃ (r : Int) (N_h : gMN) (L_h : gML) (Z_h : gMZ), v = some (.int (iI r)) ∧ w1 = (wdM cI cJ cZ qh B_h P_h N_h L_h E_h V_h G_h D_h O_h Z_h R_h I_h) ∧ (r = 0 ∨ r = 1) ∧ Q r N_h L_h Z_h
def wp_X7_putsBy_99 (K_11 : Int → Int → Int → Int → Int → Int → gMN → gML → gMZ → Prop)  (Q : Int → gMN → gML → gMZ → Prop) (x1 : Int) (x2 : Int) (x3 : Int) (x4 : Int) (x6 : Int) (s0 : Int) (N_h : gMN) (L_h : gML) (Z_h : gMZ) : Prop :=
    (0 ≤ x6 ∧ x6 < 3) ∧ rI x3 ∧ K_11 x1 x2 (x3.tdiv 100) (ior x4 (ishl 1 (Z_h x6))) s0 (x6 + 1) N_h L_h Z_h
def wp_X7_putsBy_11 (B_h : gMB) (P_h : gMP) (K_126 : Int → Int → Int → gMN → gML → gMZ → Prop)  (Q : Int → gMN → gML → gMZ → Prop) : Nat → Int → Int → Int → Int → Int → Int → gMN → gML → gMZ → Prop
  | 0, _, _, _, _, _, _, _, _, _ => False
  | n11 + 1, x1, x2, x3, x4, x5, x6, N_h, L_h, Z_h =>
    rI x6 ∧ rI x2 ∧ ((x2 ≤ x6 → K_126 x1 x2 x5 N_h L_h Z_h) ∧ (¬ (x2 ≤ x6) → rI x5 ∧ ((x5 = 0 → K_126 x1 x2 x5 N_h L_h Z_h) ∧ (¬ (x5 = 0) → rI x3 ∧ (0 ≤ x6 ∧ x6 < 3) ∧ wp_X7_has B_h.2.1 ((aset Z_h x6 (x3.tmod 10)) x6) (fun (r44 : Int) => ((r44 = 0 → wp_X7_putsBy_99 (fun (x1 : Int) (x2 : Int) (x3 : Int) (x4 : Int) (x5 : Int) (x6 : Int) (N_h : gMN) (L_h : gML) (Z_h : gMZ) => wp_X7_putsBy_11 B_h P_h K_126 Q n11 x1 x2 x3 x4 x5 x6 N_h L_h Z_h) Q x1 x2 x3 x4 x6 0 N_h L_h (aset Z_h x6 (x3.tmod 10))) ∧ (¬ (r44 = 0) → (0 ≤ ((aset Z_h x6 (x3.tmod 10)) x6) ∧ ((aset Z_h x6 (x3.tmod 10)) x6) < 10) ∧ rI (P_h.1 ((aset Z_h x6 (x3.tmod 10)) x6)) ∧ ((0 ≤ (P_h.1 ((aset Z_h x6 (x3.tmod 10)) x6)) → wp_X7_putsBy_99 (fun (x1 : Int) (x2 : Int) (x3 : Int) (x4 : Int) (x5 : Int) (x6 : Int) (N_h : gMN) (L_h : gML) (Z_h : gMZ) => wp_X7_putsBy_11 B_h P_h K_126 Q n11 x1 x2 x3 x4 x5 x6 N_h L_h Z_h) Q x1 x2 x3 x4 x6 0 N_h L_h (aset Z_h x6 (x3.tmod 10))) ∧ (¬ (0 ≤ (P_h.1 ((aset Z_h x6 (x3.tmod 10)) x6))) → wp_X7_has x4 ((aset Z_h x6 (x3.tmod 10)) x6) (fun (r74 : Int) => ((¬ r74 = 0 → wp_X7_putsBy_99 (fun (x1 : Int) (x2 : Int) (x3 : Int) (x4 : Int) (x5 : Int) (x6 : Int) (N_h : gMN) (L_h : gML) (Z_h : gMZ) => wp_X7_putsBy_11 B_h P_h K_126 Q n11 x1 x2 x3 x4 x5 x6 N_h L_h Z_h) Q x1 x2 x3 x4 x6 0 N_h L_h (aset Z_h x6 (x3.tmod 10))) ∧ (¬ (¬ r74 = 0) → rI (x3.tdiv 10) ∧ rI ((x3.tdiv 10).tmod 10) ∧ rI B_h.1 ∧ ((B_h.1 ≤ ((x3.tdiv 10).tmod 10) → wp_X7_putsBy_99 (fun (x1 : Int) (x2 : Int) (x3 : Int) (x4 : Int) (x5 : Int) (x6 : Int) (N_h : gMN) (L_h : gML) (Z_h : gMZ) => wp_X7_putsBy_11 B_h P_h K_126 Q n11 x1 x2 x3 x4 x5 x6 N_h L_h Z_h) Q x1 x2 x3 x4 x6 0 N_h L_h (aset Z_h x6 (x3.tmod 10))) ∧ (¬ (B_h.1 ≤ ((x3.tdiv 10).tmod 10)) → wp_X7_putsBy_99 (fun (x1 : Int) (x2 : Int) (x3 : Int) (x4 : Int) (x5 : Int) (x6 : Int) (N_h : gMN) (L_h : gML) (Z_h : gMZ) => wp_X7_putsBy_11 B_h P_h K_126 Q n11 x1 x2 x3 x4 x5 x6 N_h L_h Z_h) Q x1 x2 x3 x4 x6 1 N_h L_h (aset Z_h x6 (x3.tmod 10))))))))))))))))
def wp_X7_putsBy_142 (B_h : gMB) (K_192 : Int → gMN → gML → gMZ → Prop)  (Q : Int → gMN → gML → gMZ → Prop) : Nat → Int → Int → Int → Int → gMN → gML → gMZ → Prop
  | 0, _, _, _, _, _, _, _ => False
  | n142 + 1, x2, x3, x5, x6, N_h, L_h, Z_h =>
    rI x6 ∧ rI x2 ∧ ((x2 ≤ x6 → K_192 x5 N_h L_h Z_h) ∧ (¬ (x2 ≤ x6) → rI x5 ∧ ((x5 = 0 → K_192 x5 N_h L_h Z_h) ∧ (¬ (x5 = 0) → (0 ≤ x6 ∧ x6 < 3) ∧ rI x3 ∧ rI (x3.tdiv 10) ∧ wp_X7_put B_h N_h L_h (Z_h x6) ((x3.tdiv 10).tmod 10) (fun (r168 : Int) (N_h_168 : gMN) (L_h_168 : gML) => rI r168 ∧ ((¬ r168 = 0 → wp_X7_putsBy_142 B_h K_192 Q n142 x2 (x3.tdiv 100) 0 (x6 + 1) N_h_168 L_h_168 Z_h) ∧ (¬ (¬ r168 = 0) → wp_X7_putsBy_142 B_h K_192 Q n142 x2 (x3.tdiv 100) 1 (x6 + 1) N_h_168 L_h_168 Z_h)))))))
def wp_X7_putsBy_126 (B_h : gMB) (P_h : gMP)  (Q : Int → gMN → gML → gMZ → Prop) (x1 : Int) (x2 : Int) (x5 : Int) (N_h : gMN) (L_h : gML) (Z_h : gMZ) : Prop :=
    rI x5 ∧ ((¬ x5 = 0 → wp_X7_asNow P_h N_h (fun (N_h_134 : gMN) => ∃ m142, wp_X7_putsBy_142 B_h (fun (x5 : Int) (N_h : gMN) (L_h : gML) (Z_h : gMZ) => (x5 = 0 ∨ x5 = 1) ∧ Q x5 N_h L_h Z_h) Q m142 x2 x1 x5 0 N_h_134 L_h Z_h)) ∧ (¬ (¬ x5 = 0) → Q 0 N_h L_h Z_h))
def wp_X7_putsBy (B_h : gMB) (P_h : gMP) (N_h : gMN) (L_h : gML) (Z_h : gMZ) (x1 : Int) (x2 : Int) (Q : Int → gMN → gML → gMZ → Prop) : Prop :=
    ∃ m11, wp_X7_putsBy_11 B_h P_h (fun (x1 : Int) (x2 : Int) (x5 : Int) (N_h : gMN) (L_h : gML) (Z_h : gMZ) => wp_X7_putsBy_126 B_h P_h Q x1 x2 x5 N_h L_h Z_h) Q m11 x1 x2 x1 0 1 0 N_h L_h Z_h
set_option maxHeartbeats 4000000 in
set_option maxRecDepth 20000 in
theorem w_X7_putsBy_99 {l : Launch} {D : va_G} {cI cJ cZ : ClassId} {A : Nat → Prop} {K : KT} {qh : Nat → Nat} {B_h : gMB} {P_h : gMP} {E_h : gME} {V_h : gMV} {G_h : gMG} {D_h : gMD} {O_h : gMO} {R_h : gMR} {I_h : gMI} {Q : Int → gMN → gML → gMZ → Prop} {K_11 : Int → Int → Int → Int → Int → Int → gMN → gML → gMZ → Prop} (C : KC cX7_putsBy yX7_putsBy.cls wsX7_putsBy rm_X7_putsBy 7 D (kT cI cJ cZ) A l false (rp_X7_putsBy cI cJ cZ qh B_h P_h E_h V_h G_h D_h O_h R_h I_h Q) 0 0 K) : ∀ (x1 : Int) (x2 : Int) (x3 : Int) (x4 : Int) (x6 : Int) (s0 : Int) (N_h : gMN) (L_h : gML) (Z_h : gMZ), wp_X7_putsBy_99 K_11 Q x1 x2 x3 x4 x6 s0 N_h L_h Z_h → (∀ (x1 : Int) (x2 : Int) (x3 : Int) (x4 : Int) (x5 : Int) (x6 : Int) (N_h : gMN) (L_h : gML) (Z_h : gMZ), K_11 x1 x2 x3 x4 x5 x6 N_h L_h Z_h → K 0 0 11 [(0, .ref (qh 0)), (1, .int (iI x1)), (2, .int (iI x2)), (3, .int (iI x3)), (4, .int (iI x4)), (5, .int (iI x5)), (6, .int (iI x6))] [] ((wdM cI cJ cZ qh B_h P_h N_h L_h E_h V_h G_h D_h O_h Z_h R_h I_h))) → K 0 0 99 [(0, .ref (qh 0)), (1, .int (iI x1)), (2, .int (iI x2)), (3, .int (iI x3)), (4, .int (iI x4)), (6, .int (iI x6))] [.int (iI s0)] ((wdM cI cJ cZ qh B_h P_h N_h L_h E_h V_h G_h D_h O_h Z_h R_h I_h)) := by
  intro x1 x2 x3 x4 x6 s0 N_h L_h Z_h h hK_11
  refine k_istore C dX7_putsBy_99 (by decide) [(5, .int (iI s0)), (0, .ref (qh 0)), (1, .int (iI x1)), (2, .int (iI x2)), (3, .int (iI x3)), (4, .int (iI x4)), (6, .int (iI x6))] rfl 101 rfl ?_
  refine k_iload C dX7_putsBy_101 5 rfl 103 rfl ?_
  refine k_iconst C dX7_putsBy_103 104 rfl ?_
  refine k_aload_n C dX7_putsBy_104 1 rfl rfl 105 rfl ?_
  refine k_get C dX7_putsBy_105 0 rfl (ci := 7) rfl hin_X7_putsBy_7 19 (by decide) (List.mem_of_getElem? (i := 1) rfl) rfl 108 rfl ?_
  refine k_iload C dX7_putsBy_108 6 rfl 110 rfl ?_
  obtain ⟨hi110, h⟩ := h
  refine k_iaload C dX7_putsBy_110 13 0 rfl rfl (by decide) hi110 111 rfl ?_
  refine k_ishl C dX7_putsBy_111 112 rfl ?_
  refine k_ior C dX7_putsBy_112 113 rfl ?_
  refine k_istore C dX7_putsBy_113 (by decide) [(4, .int (iI (ior x4 (ishl 1 (Z_h x6))))), (5, .int (iI s0)), (0, .ref (qh 0)), (1, .int (iI x1)), (2, .int (iI x2)), (3, .int (iI x3)), (6, .int (iI x6))] rfl 115 rfl ?_
  refine k_iload_n C dX7_putsBy_115 5 rfl rfl 116 rfl ?_
  refine k_bipush C dX7_putsBy_116 (by decide) 118 rfl ?_
  obtain ⟨hr118a, h⟩ := h
  refine k_idiv C dX7_putsBy_118 ⟨hr118a, (by decide), (by decide)⟩ 119 rfl ?_
  refine k_istore_n C dX7_putsBy_119 rfl (by decide) [(3, .int (iI (x3.tdiv 100))), (4, .int (iI (ior x4 (ishl 1 (Z_h x6))))), (5, .int (iI s0)), (0, .ref (qh 0)), (1, .int (iI x1)), (2, .int (iI x2)), (6, .int (iI x6))] rfl 120 rfl ?_
  refine k_iinc (j := 6) C dX7_putsBy_120 rfl (by decide) [(6, .int (iI (x6 + 1))), (3, .int (iI (x3.tdiv 100))), (4, .int (iI (ior x4 (ishl 1 (Z_h x6))))), (5, .int (iI s0)), (0, .ref (qh 0)), (1, .int (iI x1)), (2, .int (iI x2))] rfl 123 rfl ?_
  refine k_goto C dX7_putsBy_123 11 (by decide) ?_
  refine k_lv C [4, 5, 6, 1, 2, 3, 0] [(0, .ref (qh 0)), (1, .int (iI x1)), (2, .int (iI x2)), (3, .int (iI (x3.tdiv 100))), (4, .int (iI (ior x4 (ishl 1 (Z_h x6))))), (5, .int (iI s0)), (6, .int (iI (x6 + 1)))] rfl ?_
  exact hK_11 x1 x2 (x3.tdiv 100) (ior x4 (ishl 1 (Z_h x6))) s0 (x6 + 1) N_h L_h Z_h h
set_option maxHeartbeats 4000000 in
set_option maxRecDepth 20000 in
theorem w_X7_putsBy_11 {l : Launch} {D : va_G} {cI cJ cZ : ClassId} {A : Nat → Prop} {K : KT} {qh : Nat → Nat} {B_h : gMB} {P_h : gMP} {E_h : gME} {V_h : gMV} {G_h : gMG} {D_h : gMD} {O_h : gMO} {R_h : gMR} {I_h : gMI} {Q : Int → gMN → gML → gMZ → Prop} {K_126 : Int → Int → Int → gMN → gML → gMZ → Prop} (C : KC cX7_putsBy yX7_putsBy.cls wsX7_putsBy rm_X7_putsBy 7 D (kT cI cJ cZ) A l false (rp_X7_putsBy cI cJ cZ qh B_h P_h E_h V_h G_h D_h O_h R_h I_h Q) 0 0 K) : ∀ (n : Nat) (x1 : Int) (x2 : Int) (x3 : Int) (x4 : Int) (x5 : Int) (x6 : Int) (N_h : gMN) (L_h : gML) (Z_h : gMZ), wp_X7_putsBy_11 B_h P_h K_126 Q n x1 x2 x3 x4 x5 x6 N_h L_h Z_h → (∀ (x1 : Int) (x2 : Int) (x5 : Int) (N_h : gMN) (L_h : gML) (Z_h : gMZ), K_126 x1 x2 x5 N_h L_h Z_h → K 0 0 126 [(0, .ref (qh 0)), (1, .int (iI x1)), (2, .int (iI x2)), (5, .int (iI x5))] [] ((wdM cI cJ cZ qh B_h P_h N_h L_h E_h V_h G_h D_h O_h Z_h R_h I_h))) → K 0 0 11 [(0, .ref (qh 0)), (1, .int (iI x1)), (2, .int (iI x2)), (3, .int (iI x3)), (4, .int (iI x4)), (5, .int (iI x5)), (6, .int (iI x6))] [] ((wdM cI cJ cZ qh B_h P_h N_h L_h E_h V_h G_h D_h O_h Z_h R_h I_h)) := by
  intro n
  induction n with
  | zero => intro x1 x2 x3 x4 x5 x6 N_h L_h Z_h h; exact h.elim
  | succ n ih =>
    intro x1 x2 x3 x4 x5 x6 N_h L_h Z_h h hK_126
    refine k_iload C dX7_putsBy_11 6 rfl 13 rfl ?_
    refine k_iload_n C dX7_putsBy_13 2 rfl rfl 14 rfl ?_
    obtain ⟨hr14a, hr14b, h⟩ := h
    obtain ⟨ht, hf⟩ := h
    refine k_icmp_ge C dX7_putsBy_14 ⟨hr14a, hr14b⟩ 126 17 (by decide) rfl (fun hc14 => ?_) (fun hc14 => ?_)
    · have h := ht hc14; clear ht hf
      refine k_lv C [0, 1, 2, 5] [(0, .ref (qh 0)), (1, .int (iI x1)), (2, .int (iI x2)), (5, .int (iI x5))] rfl ?_
      exact hK_126 x1 x2 x5 N_h L_h Z_h h
    · have h := hf hc14; clear ht hf
      refine k_iload C dX7_putsBy_17 5 rfl 19 rfl ?_
      obtain ⟨hr19a, h⟩ := h
      obtain ⟨ht, hf⟩ := h
      refine k_if_eq C dX7_putsBy_19 hr19a 126 22 (by decide) rfl (fun hc19 => ?_) (fun hc19 => ?_)
      · have h := ht hc19; clear ht hf
        refine k_lv C [0, 1, 2, 5] [(0, .ref (qh 0)), (1, .int (iI x1)), (2, .int (iI x2)), (5, .int (iI x5))] rfl ?_
        exact hK_126 x1 x2 x5 N_h L_h Z_h h
      · have h := hf hc19; clear ht hf
        refine k_aload_n C dX7_putsBy_22 0 rfl rfl 23 rfl ?_
        refine k_get C dX7_putsBy_23 0 rfl (ci := 7) rfl hin_X7_putsBy_7 19 (by decide) (List.mem_of_getElem? (i := 1) rfl) rfl 26 rfl ?_
        refine k_iload C dX7_putsBy_26 6 rfl 28 rfl ?_
        refine k_iload_n C dX7_putsBy_28 3 rfl rfl 29 rfl ?_
        refine k_bipush C dX7_putsBy_29 (by decide) 31 rfl ?_
        obtain ⟨hr31a, h⟩ := h
        refine k_irem C dX7_putsBy_31 ⟨hr31a, (by decide), (by decide)⟩ 32 rfl ?_
        obtain ⟨hi32, h⟩ := h
        refine k_iastore C dX7_putsBy_32 13 0 rfl rfl (by decide) hi32 ((wdM cI cJ cZ qh B_h P_h N_h L_h E_h V_h G_h D_h O_h (aset Z_h x6 (x3.tmod 10)) R_h I_h)) rfl 33 rfl ?_
        refine k_aload_n C dX7_putsBy_33 0 rfl rfl 34 rfl ?_
        refine k_get C dX7_putsBy_34 0 rfl (ci := 7) rfl hin_X7_putsBy_7 1 (by decide) (List.mem_of_getElem? (i := 2) rfl) rfl 37 rfl ?_
        refine k_aload_n C dX7_putsBy_37 0 rfl rfl 38 rfl ?_
        refine k_get C dX7_putsBy_38 0 rfl (ci := 7) rfl hin_X7_putsBy_7 19 (by decide) (List.mem_of_getElem? (i := 1) rfl) rfl 41 rfl ?_
        refine k_iload C dX7_putsBy_41 6 rfl 43 rfl ?_
        refine k_iaload C dX7_putsBy_43 13 0 rfl rfl (by decide) hi32 44 rfl ?_
        have hM := c_X7_has (l := l) (D := D) (cI := cI) (cJ := cJ) (cZ := cZ) B_h.2.1 ((aset Z_h x6 (x3.tmod 10)) x6) _ h
        refine k_callS C dX7_putsBy_44 hM gX7_putsBy_X7_has rfl sg_X7_has rfl (Nat.le_of_ble_eq_true rfl) ⟨⟨rfl, rfl⟩, by decide, by decide⟩ ⟨Nat.le_refl 0, Nat.le_refl 0⟩ [] [0, 1, 2, 3, 4, 5, 6, 7, 8, 9, 10, 11, 12, 13, 14, 15, 16] rfl rfl rfl rfl (by decide) 0 0 ⟨rfl, rfl⟩ 47 rfl (fun v w1 hq44 => ?_)
        obtain ⟨r44, rfl, rfl, hb44, h⟩ := hq44
        refine k_perm C [0, 1, 2, 3, 4, 5, 6, 7, 8, 9, 10, 11, 12, 13, 14, 15, 16] [.int (iI r44)] ((wdM cI cJ cZ qh B_h P_h N_h L_h E_h V_h G_h D_h O_h (aset Z_h x6 (x3.tmod 10)) R_h I_h)) rfl rfl rfl ?_
        obtain ⟨ht, hf⟩ := h
        refine k_if_eq C dX7_putsBy_47 (by rcases hb44 with rfl | rfl <;> decide) 98 50 (by decide) rfl (fun hc47 => ?_) (fun hc47 => ?_)
        · have h := ht hc47; clear ht hf
          refine k_iconst C dX7_putsBy_98 99 rfl ?_
          refine k_lv C [0, 1, 2, 3, 4, 6] [(0, .ref (qh 0)), (1, .int (iI x1)), (2, .int (iI x2)), (3, .int (iI x3)), (4, .int (iI x4)), (6, .int (iI x6))] rfl ?_
          refine w_X7_putsBy_99 C x1 x2 x3 x4 x6 0 N_h L_h (aset Z_h x6 (x3.tmod 10)) h (fun x1 x2 x3 x4 x5 x6 N_h L_h Z_h h => ?_)
          · exact ih x1 x2 x3 x4 x5 x6 N_h L_h Z_h h hK_126
        · have h := hf hc47; clear ht hf
          refine k_aload_n C dX7_putsBy_50 0 rfl rfl 51 rfl ?_
          refine k_get C dX7_putsBy_51 0 rfl (ci := 7) rfl hin_X7_putsBy_7 5 (by decide) (List.mem_of_getElem? (i := 3) rfl) rfl 54 rfl ?_
          refine k_aload_n C dX7_putsBy_54 0 rfl rfl 55 rfl ?_
          refine k_get C dX7_putsBy_55 0 rfl (ci := 7) rfl hin_X7_putsBy_7 19 (by decide) (List.mem_of_getElem? (i := 1) rfl) rfl 58 rfl ?_
          refine k_iload C dX7_putsBy_58 6 rfl 60 rfl ?_
          refine k_iaload C dX7_putsBy_60 13 0 rfl rfl (by decide) hi32 61 rfl ?_
          obtain ⟨hi61, h⟩ := h
          refine k_iaload C dX7_putsBy_61 4 0 rfl rfl (by decide) hi61 62 rfl ?_
          obtain ⟨hr62a, h⟩ := h
          obtain ⟨ht, hf⟩ := h
          refine k_if_ge C dX7_putsBy_62 hr62a 98 65 (by decide) rfl (fun hc62 => ?_) (fun hc62 => ?_)
          · have h := ht hc62; clear ht hf
            refine k_iconst C dX7_putsBy_98 99 rfl ?_
            refine k_lv C [0, 1, 2, 3, 4, 6] [(0, .ref (qh 0)), (1, .int (iI x1)), (2, .int (iI x2)), (3, .int (iI x3)), (4, .int (iI x4)), (6, .int (iI x6))] rfl ?_
            refine w_X7_putsBy_99 C x1 x2 x3 x4 x6 0 N_h L_h (aset Z_h x6 (x3.tmod 10)) h (fun x1 x2 x3 x4 x5 x6 N_h L_h Z_h h => ?_)
            · exact ih x1 x2 x3 x4 x5 x6 N_h L_h Z_h h hK_126
          · have h := hf hc62; clear ht hf
            refine k_iload C dX7_putsBy_65 4 rfl 67 rfl ?_
            refine k_aload_n C dX7_putsBy_67 0 rfl rfl 68 rfl ?_
            refine k_get C dX7_putsBy_68 0 rfl (ci := 7) rfl hin_X7_putsBy_7 19 (by decide) (List.mem_of_getElem? (i := 1) rfl) rfl 71 rfl ?_
            refine k_iload C dX7_putsBy_71 6 rfl 73 rfl ?_
            refine k_iaload C dX7_putsBy_73 13 0 rfl rfl (by decide) hi32 74 rfl ?_
            have hM := c_X7_has (l := l) (D := D) (cI := cI) (cJ := cJ) (cZ := cZ) x4 ((aset Z_h x6 (x3.tmod 10)) x6) _ h
            refine k_callS C dX7_putsBy_74 hM gX7_putsBy_X7_has rfl sg_X7_has rfl (Nat.le_of_ble_eq_true rfl) ⟨⟨rfl, rfl⟩, by decide, by decide⟩ ⟨Nat.le_refl 0, Nat.le_refl 0⟩ [] [0, 1, 2, 3, 4, 5, 6, 7, 8, 9, 10, 11, 12, 13, 14, 15, 16] rfl rfl rfl rfl (by decide) 0 0 ⟨rfl, rfl⟩ 77 rfl (fun v w1 hq74 => ?_)
            obtain ⟨r74, rfl, rfl, hb74, h⟩ := hq74
            refine k_perm C [0, 1, 2, 3, 4, 5, 6, 7, 8, 9, 10, 11, 12, 13, 14, 15, 16] [.int (iI r74)] ((wdM cI cJ cZ qh B_h P_h N_h L_h E_h V_h G_h D_h O_h (aset Z_h x6 (x3.tmod 10)) R_h I_h)) rfl rfl rfl ?_
            obtain ⟨ht, hf⟩ := h
            refine k_if_ne C dX7_putsBy_77 (by rcases hb74 with rfl | rfl <;> decide) 98 80 (by decide) rfl (fun hc77 => ?_) (fun hc77 => ?_)
            · have h := ht hc77; clear ht hf
              refine k_iconst C dX7_putsBy_98 99 rfl ?_
              refine k_lv C [0, 1, 2, 3, 4, 6] [(0, .ref (qh 0)), (1, .int (iI x1)), (2, .int (iI x2)), (3, .int (iI x3)), (4, .int (iI x4)), (6, .int (iI x6))] rfl ?_
              refine w_X7_putsBy_99 C x1 x2 x3 x4 x6 0 N_h L_h (aset Z_h x6 (x3.tmod 10)) h (fun x1 x2 x3 x4 x5 x6 N_h L_h Z_h h => ?_)
              · exact ih x1 x2 x3 x4 x5 x6 N_h L_h Z_h h hK_126
            · have h := hf hc77; clear ht hf
              refine k_iload_n C dX7_putsBy_80 3 rfl rfl 81 rfl ?_
              refine k_bipush C dX7_putsBy_81 (by decide) 83 rfl ?_
              refine k_idiv C dX7_putsBy_83 ⟨hr31a, (by decide), (by decide)⟩ 84 rfl ?_
              refine k_bipush C dX7_putsBy_84 (by decide) 86 rfl ?_
              obtain ⟨hr86a, h⟩ := h
              refine k_irem C dX7_putsBy_86 ⟨hr86a, (by decide), (by decide)⟩ 87 rfl ?_
              refine k_aload_n C dX7_putsBy_87 0 rfl rfl 88 rfl ?_
              refine k_get C dX7_putsBy_88 0 rfl (ci := 7) rfl hin_X7_putsBy_7 0 (by decide) (List.mem_of_getElem? (i := 4) rfl) rfl 91 rfl ?_
              obtain ⟨hr91a, hr91b, h⟩ := h
              obtain ⟨ht, hf⟩ := h
              refine k_icmp_ge C dX7_putsBy_91 ⟨hr91a, hr91b⟩ 98 94 (by decide) rfl (fun hc91 => ?_) (fun hc91 => ?_)
              · have h := ht hc91; clear ht hf
                refine k_iconst C dX7_putsBy_98 99 rfl ?_
                refine k_lv C [0, 1, 2, 3, 4, 6] [(0, .ref (qh 0)), (1, .int (iI x1)), (2, .int (iI x2)), (3, .int (iI x3)), (4, .int (iI x4)), (6, .int (iI x6))] rfl ?_
                refine w_X7_putsBy_99 C x1 x2 x3 x4 x6 0 N_h L_h (aset Z_h x6 (x3.tmod 10)) h (fun x1 x2 x3 x4 x5 x6 N_h L_h Z_h h => ?_)
                · exact ih x1 x2 x3 x4 x5 x6 N_h L_h Z_h h hK_126
              · have h := hf hc91; clear ht hf
                refine k_iconst C dX7_putsBy_94 95 rfl ?_
                refine k_goto C dX7_putsBy_95 99 (by decide) ?_
                refine k_lv C [0, 1, 2, 3, 4, 6] [(0, .ref (qh 0)), (1, .int (iI x1)), (2, .int (iI x2)), (3, .int (iI x3)), (4, .int (iI x4)), (6, .int (iI x6))] rfl ?_
                refine w_X7_putsBy_99 C x1 x2 x3 x4 x6 1 N_h L_h (aset Z_h x6 (x3.tmod 10)) h (fun x1 x2 x3 x4 x5 x6 N_h L_h Z_h h => ?_)
                · exact ih x1 x2 x3 x4 x5 x6 N_h L_h Z_h h hK_126
set_option maxHeartbeats 4000000 in
set_option maxRecDepth 20000 in
theorem w_X7_putsBy_142 {l : Launch} {D : va_G} {cI cJ cZ : ClassId} {A : Nat → Prop} {K : KT} {qh : Nat → Nat} {B_h : gMB} {P_h : gMP} {E_h : gME} {V_h : gMV} {G_h : gMG} {D_h : gMD} {O_h : gMO} {R_h : gMR} {I_h : gMI} {Q : Int → gMN → gML → gMZ → Prop} {K_192 : Int → gMN → gML → gMZ → Prop} (C : KC cX7_putsBy yX7_putsBy.cls wsX7_putsBy rm_X7_putsBy 7 D (kT cI cJ cZ) A l false (rp_X7_putsBy cI cJ cZ qh B_h P_h E_h V_h G_h D_h O_h R_h I_h Q) 0 0 K) : ∀ (n : Nat) (x2 : Int) (x3 : Int) (x5 : Int) (x6 : Int) (N_h : gMN) (L_h : gML) (Z_h : gMZ), wp_X7_putsBy_142 B_h K_192 Q n x2 x3 x5 x6 N_h L_h Z_h → (∀ (x5 : Int) (N_h : gMN) (L_h : gML) (Z_h : gMZ), K_192 x5 N_h L_h Z_h → K 0 0 192 [(5, .int (iI x5))] [] ((wdM cI cJ cZ qh B_h P_h N_h L_h E_h V_h G_h D_h O_h Z_h R_h I_h))) → K 0 0 142 [(0, .ref (qh 0)), (2, .int (iI x2)), (3, .int (iI x3)), (5, .int (iI x5)), (6, .int (iI x6))] [] ((wdM cI cJ cZ qh B_h P_h N_h L_h E_h V_h G_h D_h O_h Z_h R_h I_h)) := by
  intro n
  induction n with
  | zero => intro x2 x3 x5 x6 N_h L_h Z_h h; exact h.elim
  | succ n ih =>
    intro x2 x3 x5 x6 N_h L_h Z_h h hK_192
    refine k_iload C dX7_putsBy_142 4 rfl 144 rfl ?_
    refine k_iload_n C dX7_putsBy_144 1 rfl rfl 145 rfl ?_
    obtain ⟨hr145a, hr145b, h⟩ := h
    obtain ⟨ht, hf⟩ := h
    refine k_icmp_ge C dX7_putsBy_145 ⟨hr145a, hr145b⟩ 192 148 (by decide) rfl (fun hc145 => ?_) (fun hc145 => ?_)
    · have h := ht hc145; clear ht hf
      refine k_lv C [3] [(5, .int (iI x5))] rfl ?_
      exact hK_192 x5 N_h L_h Z_h h
    · have h := hf hc145; clear ht hf
      refine k_iload C dX7_putsBy_148 3 rfl 150 rfl ?_
      obtain ⟨hr150a, h⟩ := h
      obtain ⟨ht, hf⟩ := h
      refine k_if_eq C dX7_putsBy_150 hr150a 192 153 (by decide) rfl (fun hc150 => ?_) (fun hc150 => ?_)
      · have h := ht hc150; clear ht hf
        refine k_lv C [3] [(5, .int (iI x5))] rfl ?_
        exact hK_192 x5 N_h L_h Z_h h
      · have h := hf hc150; clear ht hf
        refine k_aload_n C dX7_putsBy_153 0 rfl rfl 154 rfl ?_
        refine k_aload_n C dX7_putsBy_154 0 rfl rfl 155 rfl ?_
        refine k_get C dX7_putsBy_155 0 rfl (ci := 7) rfl hin_X7_putsBy_7 19 (by decide) (List.mem_of_getElem? (i := 1) rfl) rfl 158 rfl ?_
        refine k_iload C dX7_putsBy_158 4 rfl 160 rfl ?_
        obtain ⟨hi160, h⟩ := h
        refine k_iaload C dX7_putsBy_160 13 0 rfl rfl (by decide) hi160 161 rfl ?_
        refine k_iload_n C dX7_putsBy_161 2 rfl rfl 162 rfl ?_
        refine k_bipush C dX7_putsBy_162 (by decide) 164 rfl ?_
        obtain ⟨hr164a, h⟩ := h
        refine k_idiv C dX7_putsBy_164 ⟨hr164a, (by decide), (by decide)⟩ 165 rfl ?_
        refine k_bipush C dX7_putsBy_165 (by decide) 167 rfl ?_
        obtain ⟨hr167a, h⟩ := h
        refine k_irem C dX7_putsBy_167 ⟨hr167a, (by decide), (by decide)⟩ 168 rfl ?_
        have hM := c_X7_put (l := l) (D := D) (cI := cI) (cJ := cJ) (cZ := cZ) qh B_h P_h N_h L_h E_h V_h G_h D_h O_h Z_h R_h I_h (Z_h x6) ((x3.tdiv 10).tmod 10) _ h
        refine k_callV C dX7_putsBy_168 hM gX7_putsBy_X7_put rfl sg_X7_put 7 rfl rfl rfl (Nat.le_of_ble_eq_true rfl) ⟨⟨rfl, rfl⟩, by decide, by decide⟩ ⟨Nat.le_refl 0, Nat.le_refl 0⟩ [0, 1, 2, 3, 4, 5, 6, 7, 8, 9, 10, 11, 12, 13, 14, 15, 16] [] rfl rfl rfl rfl (by decide) 0 0 ⟨rfl, rfl⟩ 171 rfl (fun v w1 hq168 => ?_)
        obtain ⟨r168, N_h_168, L_h_168, rfl, rfl, h⟩ := hq168
        refine k_perm C [0, 1, 2, 3, 4, 5, 6, 7, 8, 9, 10, 11, 12, 13, 14, 15, 16] [.int (iI r168)] ((wdM cI cJ cZ qh B_h P_h N_h_168 L_h_168 E_h V_h G_h D_h O_h Z_h R_h I_h)) rfl rfl rfl ?_
        obtain ⟨hr171a, h⟩ := h
        obtain ⟨ht, hf⟩ := h
        refine k_if_ne C dX7_putsBy_171 hr171a 178 174 (by decide) rfl (fun hc171 => ?_) (fun hc171 => ?_)
        · have h := ht hc171; clear ht hf
          refine k_iconst C dX7_putsBy_178 179 rfl ?_
          refine k_istore C dX7_putsBy_179 (by decide) [(5, .int (iI 0)), (0, .ref (qh 0)), (2, .int (iI x2)), (3, .int (iI x3)), (6, .int (iI x6))] rfl 181 rfl ?_
          refine k_iload_n C dX7_putsBy_181 3 rfl rfl 182 rfl ?_
          refine k_bipush C dX7_putsBy_182 (by decide) 184 rfl ?_
          refine k_idiv C dX7_putsBy_184 ⟨hr164a, (by decide), (by decide)⟩ 185 rfl ?_
          refine k_istore_n C dX7_putsBy_185 rfl (by decide) [(3, .int (iI (x3.tdiv 100))), (5, .int (iI 0)), (0, .ref (qh 0)), (2, .int (iI x2)), (6, .int (iI x6))] rfl 186 rfl ?_
          refine k_iinc (j := 4) C dX7_putsBy_186 rfl (by decide) [(6, .int (iI (x6 + 1))), (3, .int (iI (x3.tdiv 100))), (5, .int (iI 0)), (0, .ref (qh 0)), (2, .int (iI x2))] rfl 189 rfl ?_
          refine k_goto C dX7_putsBy_189 142 (by decide) ?_
          refine k_lv C [3, 4, 1, 2, 0] [(0, .ref (qh 0)), (2, .int (iI x2)), (3, .int (iI (x3.tdiv 100))), (5, .int (iI 0)), (6, .int (iI (x6 + 1)))] rfl ?_
          exact ih x2 (x3.tdiv 100) 0 (x6 + 1) N_h_168 L_h_168 Z_h h hK_192
        · have h := hf hc171; clear ht hf
          refine k_iconst C dX7_putsBy_174 175 rfl ?_
          refine k_goto C dX7_putsBy_175 179 (by decide) ?_
          refine k_istore C dX7_putsBy_179 (by decide) [(5, .int (iI 1)), (0, .ref (qh 0)), (2, .int (iI x2)), (3, .int (iI x3)), (6, .int (iI x6))] rfl 181 rfl ?_
          refine k_iload_n C dX7_putsBy_181 3 rfl rfl 182 rfl ?_
          refine k_bipush C dX7_putsBy_182 (by decide) 184 rfl ?_
          refine k_idiv C dX7_putsBy_184 ⟨hr164a, (by decide), (by decide)⟩ 185 rfl ?_
          refine k_istore_n C dX7_putsBy_185 rfl (by decide) [(3, .int (iI (x3.tdiv 100))), (5, .int (iI 1)), (0, .ref (qh 0)), (2, .int (iI x2)), (6, .int (iI x6))] rfl 186 rfl ?_
          refine k_iinc (j := 4) C dX7_putsBy_186 rfl (by decide) [(6, .int (iI (x6 + 1))), (3, .int (iI (x3.tdiv 100))), (5, .int (iI 1)), (0, .ref (qh 0)), (2, .int (iI x2))] rfl 189 rfl ?_
          refine k_goto C dX7_putsBy_189 142 (by decide) ?_
          refine k_lv C [3, 4, 1, 2, 0] [(0, .ref (qh 0)), (2, .int (iI x2)), (3, .int (iI (x3.tdiv 100))), (5, .int (iI 1)), (6, .int (iI (x6 + 1)))] rfl ?_
          exact ih x2 (x3.tdiv 100) 1 (x6 + 1) N_h_168 L_h_168 Z_h h hK_192
set_option maxHeartbeats 4000000 in
set_option maxRecDepth 20000 in
theorem w_X7_putsBy_126 {l : Launch} {D : va_G} {cI cJ cZ : ClassId} {A : Nat → Prop} {K : KT} {qh : Nat → Nat} {B_h : gMB} {P_h : gMP} {E_h : gME} {V_h : gMV} {G_h : gMG} {D_h : gMD} {O_h : gMO} {R_h : gMR} {I_h : gMI} {Q : Int → gMN → gML → gMZ → Prop} (C : KC cX7_putsBy yX7_putsBy.cls wsX7_putsBy rm_X7_putsBy 7 D (kT cI cJ cZ) A l false (rp_X7_putsBy cI cJ cZ qh B_h P_h E_h V_h G_h D_h O_h R_h I_h Q) 0 0 K) : ∀ (x1 : Int) (x2 : Int) (x5 : Int) (N_h : gMN) (L_h : gML) (Z_h : gMZ), wp_X7_putsBy_126 B_h P_h Q x1 x2 x5 N_h L_h Z_h → K 0 0 126 [(0, .ref (qh 0)), (1, .int (iI x1)), (2, .int (iI x2)), (5, .int (iI x5))] [] ((wdM cI cJ cZ qh B_h P_h N_h L_h E_h V_h G_h D_h O_h Z_h R_h I_h)) := by
  intro x1 x2 x5 N_h L_h Z_h h 
  refine k_iload C dX7_putsBy_126 3 rfl 128 rfl ?_
  obtain ⟨hr128a, h⟩ := h
  obtain ⟨ht, hf⟩ := h
  refine k_if_ne C dX7_putsBy_128 hr128a 133 131 (by decide) rfl (fun hc128 => ?_) (fun hc128 => ?_)
  · have h := ht hc128; clear ht hf
    refine k_aload_n C dX7_putsBy_133 0 rfl rfl 134 rfl ?_
    have hM := c_X7_asNow (l := l) (D := D) (cI := cI) (cJ := cJ) (cZ := cZ) qh B_h P_h N_h L_h E_h V_h G_h D_h O_h Z_h R_h I_h _ h
    refine k_callV C dX7_putsBy_134 hM gX7_putsBy_X7_asNow rfl sg_X7_asNow 7 rfl rfl rfl (Nat.le_of_ble_eq_true rfl) ⟨⟨rfl, rfl⟩, by decide, by decide⟩ ⟨Nat.le_refl 0, Nat.le_refl 0⟩ [0, 1, 2, 3, 4, 5, 6, 7, 8, 9, 10, 11, 12, 13, 14, 15, 16] [] rfl rfl rfl rfl (by decide) 0 0 ⟨rfl, rfl⟩ 137 rfl (fun v w1 hq134 => ?_)
    obtain ⟨N_h_134, rfl, rfl, h⟩ := hq134
    refine k_perm C [0, 1, 2, 3, 4, 5, 6, 7, 8, 9, 10, 11, 12, 13, 14, 15, 16] [] ((wdM cI cJ cZ qh B_h P_h N_h_134 L_h E_h V_h G_h D_h O_h Z_h R_h I_h)) rfl rfl rfl ?_
    refine k_iload_n C dX7_putsBy_137 1 rfl rfl 138 rfl ?_
    refine k_istore_n C dX7_putsBy_138 rfl (by decide) [(3, .int (iI x1)), (0, .ref (qh 0)), (1, .int (iI x1)), (2, .int (iI x2)), (5, .int (iI x5))] rfl 139 rfl ?_
    refine k_iconst C dX7_putsBy_139 140 rfl ?_
    refine k_istore C dX7_putsBy_140 (by decide) [(6, .int (iI 0)), (3, .int (iI x1)), (0, .ref (qh 0)), (1, .int (iI x1)), (2, .int (iI x2)), (5, .int (iI x5))] rfl 142 rfl ?_
    refine k_lv C [2, 4, 1, 5, 0] [(0, .ref (qh 0)), (2, .int (iI x2)), (3, .int (iI x1)), (5, .int (iI x5)), (6, .int (iI 0))] rfl ?_
    obtain ⟨m142, h⟩ := h
    refine w_X7_putsBy_142 C m142 x2 x1 x5 0 N_h_134 L_h Z_h h (fun x5 N_h L_h Z_h h => ?_)
    · refine k_iload C dX7_putsBy_192 0 rfl 194 rfl ?_
      obtain ⟨hb194, h⟩ := h
      exact k_iret C dX7_putsBy_194 ⟨x5, N_h, L_h, Z_h, rfl, rfl, hb194, h⟩
  · have h := hf hc128; clear ht hf
    refine k_iconst C dX7_putsBy_131 132 rfl ?_
    exact k_iret C dX7_putsBy_132 ⟨0, N_h, L_h, Z_h, rfl, rfl, (by decide), h⟩
set_option maxHeartbeats 4000000 in
set_option maxRecDepth 20000 in
theorem c_X7_putsBy {l : Launch} {D : va_G} {cI cJ cZ : ClassId} (qh : Nat → Nat) (B_h : gMB) (P_h : gMP) (N_h : gMN) (L_h : gML) (E_h : gME) (V_h : gMV) (G_h : gMG) (D_h : gMD) (O_h : gMO) (Z_h : gMZ) (R_h : gMR) (I_h : gMI) (x1 : Int) (x2 : Int) (Q : Int → gMN → gML → gMZ → Prop) (h : wp_X7_putsBy B_h P_h N_h L_h Z_h x1 x2 Q) : KM l D (kT cI cJ cZ) 0 0 yX7_putsBy wsX7_putsBy rm_X7_putsBy [.ref (qh 0), .int (iI x1), .int (iI x2)] ((wdM cI cJ cZ qh B_h P_h N_h L_h E_h V_h G_h D_h O_h Z_h R_h I_h)) (rp_X7_putsBy cI cJ cZ qh B_h P_h E_h V_h G_h D_h O_h R_h I_h Q) := by
  refine KM_intro (lv := [(0, .ref (qh 0)), (1, .int (iI x1)), (2, .int (iI x2))]) false rfl (by decide) (Nat.le_of_ble_eq_true rfl) rfl (fun h => absurd h (by decide)) (fun v ws hq => by obtain ⟨r, N_h, L_h, Z_h, rfl, rfl, hb, _⟩ := hq; exact Or.inr (Or.inr (Or.inl ⟨rfl, by rcases hb with rfl | rfl; exact Or.inl rfl; exact Or.inr rfl⟩))) (fun A K C => ?_)
  refine k_iload_n C dX7_putsBy_0 1 rfl rfl 1 rfl ?_
  refine k_istore_n C dX7_putsBy_1 rfl (by decide) [(3, .int (iI x1)), (0, .ref (qh 0)), (1, .int (iI x1)), (2, .int (iI x2))] rfl 2 rfl ?_
  refine k_iconst C dX7_putsBy_2 3 rfl ?_
  refine k_istore C dX7_putsBy_3 (by decide) [(4, .int (iI 0)), (3, .int (iI x1)), (0, .ref (qh 0)), (1, .int (iI x1)), (2, .int (iI x2))] rfl 5 rfl ?_
  refine k_iconst C dX7_putsBy_5 6 rfl ?_
  refine k_istore C dX7_putsBy_6 (by decide) [(5, .int (iI 1)), (4, .int (iI 0)), (3, .int (iI x1)), (0, .ref (qh 0)), (1, .int (iI x1)), (2, .int (iI x2))] rfl 8 rfl ?_
  refine k_iconst C dX7_putsBy_8 9 rfl ?_
  refine k_istore C dX7_putsBy_9 (by decide) [(6, .int (iI 0)), (5, .int (iI 1)), (4, .int (iI 0)), (3, .int (iI x1)), (0, .ref (qh 0)), (1, .int (iI x1)), (2, .int (iI x2))] rfl 11 rfl ?_
  refine k_lv C [4, 5, 6, 3, 2, 1, 0] [(0, .ref (qh 0)), (1, .int (iI x1)), (2, .int (iI x2)), (3, .int (iI x1)), (4, .int (iI 0)), (5, .int (iI 1)), (6, .int (iI 0))] rfl ?_
  obtain ⟨m11, h⟩ := h
  refine w_X7_putsBy_11 C m11 x1 x2 x1 0 1 0 N_h L_h Z_h h (fun x1 x2 x5 N_h L_h Z_h h => ?_)
  · refine w_X7_putsBy_126 C x1 x2 x5 N_h L_h Z_h h

/-! X7_codes -/
abbrev rm_X7_codes : Room := { frames := 0, cells := 0, slots := 0, locals := 0 }
theorem sg_X7_codes : yX7_codes.cls ≠ "java/lang/invoke/MethodHandle" ∧ yX7_codes.cls ≠ "java/lang/invoke/VarHandle" ∧ (parseMethodDescriptor yX7_codes.desc).map (fun d => d.parameters.length) = some 1 := by decide +kernel
def rp_X7_codes (cI cJ cZ : ClassId) (Q : Int → Prop) : Option Value → va_W → Prop := fun v w1 => ∃ (r : Int), v = some (.int (iI r)) ∧ w1 = ([] : va_W) ∧ Q r
def wp_X7_codes (x0 : Int) (Q : Int → Prop) : Prop :=
    rI x0 ∧ ((¬ x0 = 0 → ((¬ x0 = 1 → ((¬ x0 = 2 → Q 1000000) ∧ (¬ (¬ x0 = 2) → Q 10000))) ∧ (¬ (¬ x0 = 1) → Q 100))) ∧ (¬ (¬ x0 = 0) → Q 1))

set_option maxHeartbeats 4000000 in
set_option maxRecDepth 20000 in
theorem c_X7_codes {l : Launch} {D : va_G} {cI cJ cZ : ClassId} (x0 : Int) (Q : Int → Prop) (h : wp_X7_codes x0 Q) : KM l D (kT cI cJ cZ) 0 0 yX7_codes wsX7_codes rm_X7_codes [.int (iI x0)] (([] : va_W)) (rp_X7_codes cI cJ cZ Q) := by
  refine KM_intro (lv := [(0, .int (iI x0))]) false rfl (by decide) (Nat.le_of_ble_eq_true rfl) rfl (fun h => absurd h (by decide)) (fun v ws hq => by obtain ⟨r, rfl, rfl, _⟩ := hq; exact Or.inr (Or.inl ⟨rfl, _, rfl⟩)) (fun A K C => ?_)
  refine k_iload_n C dX7_codes_0 0 rfl rfl 1 rfl ?_
  obtain ⟨hr1a, h⟩ := h
  obtain ⟨ht, hf⟩ := h
  refine k_if_ne C dX7_codes_1 hr1a 8 4 (by decide) rfl (fun hc1 => ?_) (fun hc1 => ?_)
  · have h := ht hc1; clear ht hf
    refine k_iload_n C dX7_codes_8 0 rfl rfl 9 rfl ?_
    refine k_iconst C dX7_codes_9 10 rfl ?_
    obtain ⟨ht, hf⟩ := h
    refine k_icmp_ne C dX7_codes_10 ⟨hr1a, (by decide)⟩ 18 13 (by decide) rfl (fun hc10 => ?_) (fun hc10 => ?_)
    · have h := ht hc10; clear ht hf
      refine k_iload_n C dX7_codes_18 0 rfl rfl 19 rfl ?_
      refine k_iconst C dX7_codes_19 20 rfl ?_
      obtain ⟨ht, hf⟩ := h
      refine k_icmp_ne C dX7_codes_20 ⟨hr1a, (by decide)⟩ 29 23 (by decide) rfl (fun hc20 => ?_) (fun hc20 => ?_)
      · have h := ht hc20; clear ht hf
        refine k_ldc (v := 1000000) C dX7_codes_29 (List.mem_of_getElem? (i := 1) rfl) (by decide) 31 rfl ?_
        exact k_iret C dX7_codes_31 ⟨1000000, rfl, rfl, h⟩
      · have h := hf hc20; clear ht hf
        refine k_sipush C dX7_codes_23 (by decide) 26 rfl ?_
        refine k_goto C dX7_codes_26 31 (by decide) ?_
        exact k_iret C dX7_codes_31 ⟨10000, rfl, rfl, h⟩
    · have h := hf hc10; clear ht hf
      refine k_bipush C dX7_codes_13 (by decide) 15 rfl ?_
      refine k_goto C dX7_codes_15 31 (by decide) ?_
      exact k_iret C dX7_codes_31 ⟨100, rfl, rfl, h⟩
  · have h := hf hc1; clear ht hf
    refine k_iconst C dX7_codes_4 5 rfl ?_
    refine k_goto C dX7_codes_5 31 (by decide) ?_
    exact k_iret C dX7_codes_31 ⟨1, rfl, rfl, h⟩

/-! X7_high -/
abbrev rm_X7_high : Room := { frames := 7, cells := 0, slots := 0, locals := 167 }
theorem sg_X7_high : yX7_high.cls ≠ "java/lang/invoke/MethodHandle" ∧ yX7_high.cls ≠ "java/lang/invoke/VarHandle" ∧ (parseMethodDescriptor yX7_high.desc).map (fun d => d.parameters.length) = some 1 := by decide +kernel
def rp_X7_high (cI cJ cZ : ClassId) (qh : Nat → Nat) (B_h : gMB) (P_h : gMP) (E_h : gME) (V_h : gMV) (G_h : gMG) (D_h : gMD) (O_h : gMO) (R_h : gMR) (I_h : gMI) (Q : Int → gMN → gML → gMZ → Prop) : Option Value → va_W → Prop := fun v w1 => ∃ (r : Int) (N_h : gMN) (L_h : gML) (Z_h : gMZ), v = some (.int (iI r)) ∧ w1 = (wdM cI cJ cZ qh B_h P_h N_h L_h E_h V_h G_h D_h O_h Z_h R_h I_h) ∧ Q r N_h L_h Z_h
def wp_X7_high_85 (K_45 : Int → Int → Int → Int → Int → Int → gMN → gML → gMZ → Prop)  (Q : Int → gMN → gML → gMZ → Prop) (x1 : Int) (x2 : Int) (x3 : Int) (x5 : Int) (x6 : Int) (x7 : Int) (s0 : Int) (N_h : gMN) (L_h : gML) (Z_h : gMZ) : Prop :=
    rI x7 ∧ rI x3 ∧ ((x7 ≤ x3 → K_45 x1 x2 x3 s0 x5 (x6 + 1) N_h L_h Z_h) ∧ (¬ (x7 ≤ x3) → K_45 x1 x2 x7 s0 x5 (x6 + 1) N_h L_h Z_h))
def wp_X7_high_45 (B_h : gMB) (P_h : gMP) (K_106 : Int → Int → Int → Int → Int → gMN → gML → gMZ → Prop)  (Q : Int → gMN → gML → gMZ → Prop) : Nat → Int → Int → Int → Int → Int → Int → gMN → gML → gMZ → Prop
  | 0, _, _, _, _, _, _, _, _, _ => False
  | n45 + 1, x1, x2, x3, x4, x5, x6, N_h, L_h, Z_h =>
    wp_X7_codes x5 (fun (r49 : Int) => rI x6 ∧ rI r49 ∧ ((r49 ≤ x6 → K_106 x1 x2 x3 x4 x5 N_h L_h Z_h) ∧ (¬ (r49 ≤ x6) → wp_X7_putsBy B_h P_h N_h L_h Z_h x6 x5 (fun (r60 : Int) (N_h_60 : gMN) (L_h_60 : gML) (Z_h_60 : gMZ) => ((r60 = 0 → wp_X7_high_45 B_h P_h K_106 Q n45 x1 x2 x3 x4 x5 (x6 + 1) N_h_60 L_h_60 Z_h_60) ∧ (¬ (r60 = 0) → wp_X7_highest B_h N_h_60 (fun (r67 : Int) => rI r67 ∧ rI x3 ∧ ((r67 ≤ x3 → wp_X7_high_85 (fun (x1 : Int) (x2 : Int) (x3 : Int) (x4 : Int) (x5 : Int) (x6 : Int) (N_h : gMN) (L_h : gML) (Z_h : gMZ) => wp_X7_high_45 B_h P_h K_106 Q n45 x1 x2 x3 x4 x5 x6 N_h L_h Z_h) Q x1 x2 x3 x5 x6 r67 x4 N_h_60 L_h_60 Z_h_60) ∧ (¬ (r67 ≤ x3) → wp_X7_high_85 (fun (x1 : Int) (x2 : Int) (x3 : Int) (x4 : Int) (x5 : Int) (x6 : Int) (N_h : gMN) (L_h : gML) (Z_h : gMZ) => wp_X7_high_45 B_h P_h K_106 Q n45 x1 x2 x3 x4 x5 x6 N_h L_h Z_h) Q x1 x2 x3 x5 x6 r67 x5 N_h_60 L_h_60 Z_h_60)))))))))
def wp_X7_high_36 (B_h : gMB) (P_h : gMP) (K_112 : Int → Int → Int → gMN → gML → gMZ → Prop)  (Q : Int → gMN → gML → gMZ → Prop) : Nat → Int → Int → Int → Int → Int → gMN → gML → gMZ → Prop
  | 0, _, _, _, _, _, _, _, _ => False
  | n36 + 1, x1, x2, x3, x4, x5, N_h, L_h, Z_h =>
    rI x5 ∧ rI x2 ∧ ((x2 < x5 → K_112 x1 x3 x4 N_h L_h Z_h) ∧ (¬ (x2 < x5) → ∃ m45, wp_X7_high_45 B_h P_h (fun (x1 : Int) (x2 : Int) (x3 : Int) (x4 : Int) (x5 : Int) (N_h : gMN) (L_h : gML) (Z_h : gMZ) => wp_X7_high_36 B_h P_h K_112 Q n36 x1 x2 x3 x4 (x5 + 1) N_h L_h Z_h) Q m45 x1 x2 x3 x4 x5 0 N_h L_h Z_h))
def wp_X7_high (B_h : gMB) (P_h : gMP) (N_h : gMN) (L_h : gML) (Z_h : gMZ) (x1 : Int) (Q : Int → gMN → gML → gMZ → Prop) : Prop :=
    wp_X7_in x1 0 1 (fun (r3 : Int) => ((¬ r3 = 0 → wp_X7_outside B_h P_h (fun (r13 : Int) => wp_X7_bits r13 (fun (r16 : Int) => rI r16 ∧ ((r16 ≤ 3 → ∃ m36, wp_X7_high_36 B_h P_h (fun (x1 : Int) (x3 : Int) (x4 : Int) (N_h : gMN) (L_h : gML) (Z_h : gMZ) => rI x1 ∧ ((¬ x1 = 0 → Q x4 N_h L_h Z_h) ∧ (¬ (¬ x1 = 0) → Q x3 N_h L_h Z_h))) Q m36 x1 r16 (-1) 0 0 N_h L_h Z_h) ∧ (¬ (r16 ≤ 3) → Q (-4) N_h L_h Z_h))))) ∧ (¬ (¬ r3 = 0) → Q (-2) N_h L_h Z_h)))
set_option maxHeartbeats 4000000 in
set_option maxRecDepth 20000 in
theorem w_X7_high_85 {l : Launch} {D : va_G} {cI cJ cZ : ClassId} {A : Nat → Prop} {K : KT} {qh : Nat → Nat} {B_h : gMB} {P_h : gMP} {E_h : gME} {V_h : gMV} {G_h : gMG} {D_h : gMD} {O_h : gMO} {R_h : gMR} {I_h : gMI} {Q : Int → gMN → gML → gMZ → Prop} {K_45 : Int → Int → Int → Int → Int → Int → gMN → gML → gMZ → Prop} (C : KC cX7_high yX7_high.cls wsX7_high rm_X7_high 8 D (kT cI cJ cZ) A l false (rp_X7_high cI cJ cZ qh B_h P_h E_h V_h G_h D_h O_h R_h I_h Q) 0 0 K) : ∀ (x1 : Int) (x2 : Int) (x3 : Int) (x5 : Int) (x6 : Int) (x7 : Int) (s0 : Int) (N_h : gMN) (L_h : gML) (Z_h : gMZ), wp_X7_high_85 K_45 Q x1 x2 x3 x5 x6 x7 s0 N_h L_h Z_h → (∀ (x1 : Int) (x2 : Int) (x3 : Int) (x4 : Int) (x5 : Int) (x6 : Int) (N_h : gMN) (L_h : gML) (Z_h : gMZ), K_45 x1 x2 x3 x4 x5 x6 N_h L_h Z_h → K 0 0 45 [(0, .ref (qh 0)), (1, .int (iI x1)), (2, .int (iI x2)), (3, .int (iI x3)), (4, .int (iI x4)), (5, .int (iI x5)), (6, .int (iI x6))] [] ((wdM cI cJ cZ qh B_h P_h N_h L_h E_h V_h G_h D_h O_h Z_h R_h I_h))) → K 0 0 85 [(0, .ref (qh 0)), (1, .int (iI x1)), (2, .int (iI x2)), (3, .int (iI x3)), (5, .int (iI x5)), (6, .int (iI x6)), (7, .int (iI x7))] [.int (iI s0)] ((wdM cI cJ cZ qh B_h P_h N_h L_h E_h V_h G_h D_h O_h Z_h R_h I_h)) := by
  intro x1 x2 x3 x5 x6 x7 s0 N_h L_h Z_h h hK_45
  refine k_istore C dX7_high_85 (by decide) [(4, .int (iI s0)), (0, .ref (qh 0)), (1, .int (iI x1)), (2, .int (iI x2)), (3, .int (iI x3)), (5, .int (iI x5)), (6, .int (iI x6)), (7, .int (iI x7))] rfl 87 rfl ?_
  refine k_iload C dX7_high_87 7 rfl 89 rfl ?_
  refine k_iload_n C dX7_high_89 4 rfl rfl 90 rfl ?_
  obtain ⟨hr90a, hr90b, h⟩ := h
  obtain ⟨ht, hf⟩ := h
  refine k_icmp_le C dX7_high_90 ⟨hr90a, hr90b⟩ 98 93 (by decide) rfl (fun hc90 => ?_) (fun hc90 => ?_)
  · have h := ht hc90; clear ht hf
    refine k_iload_n C dX7_high_98 4 rfl rfl 99 rfl ?_
    refine k_istore_n C dX7_high_99 rfl (by decide) [(3, .int (iI x3)), (4, .int (iI s0)), (0, .ref (qh 0)), (1, .int (iI x1)), (2, .int (iI x2)), (5, .int (iI x5)), (6, .int (iI x6)), (7, .int (iI x7))] rfl 100 rfl ?_
    refine k_iinc (j := 6) C dX7_high_100 rfl (by decide) [(6, .int (iI (x6 + 1))), (3, .int (iI x3)), (4, .int (iI s0)), (0, .ref (qh 0)), (1, .int (iI x1)), (2, .int (iI x2)), (5, .int (iI x5)), (7, .int (iI x7))] rfl 103 rfl ?_
    refine k_goto C dX7_high_103 45 (by decide) ?_
    refine k_lv C [3, 4, 5, 1, 2, 6, 0] [(0, .ref (qh 0)), (1, .int (iI x1)), (2, .int (iI x2)), (3, .int (iI x3)), (4, .int (iI s0)), (5, .int (iI x5)), (6, .int (iI (x6 + 1)))] rfl ?_
    exact hK_45 x1 x2 x3 s0 x5 (x6 + 1) N_h L_h Z_h h
  · have h := hf hc90; clear ht hf
    refine k_iload C dX7_high_93 7 rfl 95 rfl ?_
    refine k_goto C dX7_high_95 99 (by decide) ?_
    refine k_istore_n C dX7_high_99 rfl (by decide) [(3, .int (iI x7)), (4, .int (iI s0)), (0, .ref (qh 0)), (1, .int (iI x1)), (2, .int (iI x2)), (5, .int (iI x5)), (6, .int (iI x6)), (7, .int (iI x7))] rfl 100 rfl ?_
    refine k_iinc (j := 6) C dX7_high_100 rfl (by decide) [(6, .int (iI (x6 + 1))), (3, .int (iI x7)), (4, .int (iI s0)), (0, .ref (qh 0)), (1, .int (iI x1)), (2, .int (iI x2)), (5, .int (iI x5)), (7, .int (iI x7))] rfl 103 rfl ?_
    refine k_goto C dX7_high_103 45 (by decide) ?_
    refine k_lv C [3, 4, 5, 1, 2, 6, 0] [(0, .ref (qh 0)), (1, .int (iI x1)), (2, .int (iI x2)), (3, .int (iI x7)), (4, .int (iI s0)), (5, .int (iI x5)), (6, .int (iI (x6 + 1)))] rfl ?_
    exact hK_45 x1 x2 x7 s0 x5 (x6 + 1) N_h L_h Z_h h
set_option maxHeartbeats 4000000 in
set_option maxRecDepth 20000 in
theorem w_X7_high_45 {l : Launch} {D : va_G} {cI cJ cZ : ClassId} {A : Nat → Prop} {K : KT} {qh : Nat → Nat} {B_h : gMB} {P_h : gMP} {E_h : gME} {V_h : gMV} {G_h : gMG} {D_h : gMD} {O_h : gMO} {R_h : gMR} {I_h : gMI} {Q : Int → gMN → gML → gMZ → Prop} {K_106 : Int → Int → Int → Int → Int → gMN → gML → gMZ → Prop} (C : KC cX7_high yX7_high.cls wsX7_high rm_X7_high 8 D (kT cI cJ cZ) A l false (rp_X7_high cI cJ cZ qh B_h P_h E_h V_h G_h D_h O_h R_h I_h Q) 0 0 K) : ∀ (n : Nat) (x1 : Int) (x2 : Int) (x3 : Int) (x4 : Int) (x5 : Int) (x6 : Int) (N_h : gMN) (L_h : gML) (Z_h : gMZ), wp_X7_high_45 B_h P_h K_106 Q n x1 x2 x3 x4 x5 x6 N_h L_h Z_h → (∀ (x1 : Int) (x2 : Int) (x3 : Int) (x4 : Int) (x5 : Int) (N_h : gMN) (L_h : gML) (Z_h : gMZ), K_106 x1 x2 x3 x4 x5 N_h L_h Z_h → K 0 0 106 [(0, .ref (qh 0)), (1, .int (iI x1)), (2, .int (iI x2)), (3, .int (iI x3)), (4, .int (iI x4)), (5, .int (iI x5))] [] ((wdM cI cJ cZ qh B_h P_h N_h L_h E_h V_h G_h D_h O_h Z_h R_h I_h))) → K 0 0 45 [(0, .ref (qh 0)), (1, .int (iI x1)), (2, .int (iI x2)), (3, .int (iI x3)), (4, .int (iI x4)), (5, .int (iI x5)), (6, .int (iI x6))] [] ((wdM cI cJ cZ qh B_h P_h N_h L_h E_h V_h G_h D_h O_h Z_h R_h I_h)) := by
  intro n
  induction n with
  | zero => intro x1 x2 x3 x4 x5 x6 N_h L_h Z_h h; exact h.elim
  | succ n ih =>
    intro x1 x2 x3 x4 x5 x6 N_h L_h Z_h h hK_106
    refine k_iload C dX7_high_45 6 rfl 47 rfl ?_
    refine k_iload C dX7_high_47 5 rfl 49 rfl ?_
    have hM := c_X7_codes (l := l) (D := D) (cI := cI) (cJ := cJ) (cZ := cZ) x5 _ h
    refine k_callS C dX7_high_49 hM gX7_high_X7_codes rfl sg_X7_codes rfl (Nat.le_of_ble_eq_true rfl) ⟨⟨rfl, rfl⟩, by decide, by decide⟩ ⟨Nat.le_refl 0, Nat.le_refl 0⟩ [] [0, 1, 2, 3, 4, 5, 6, 7, 8, 9, 10, 11, 12, 13, 14, 15, 16] rfl rfl rfl rfl (by decide) 0 0 ⟨rfl, rfl⟩ 52 rfl (fun v w1 hq49 => ?_)
    obtain ⟨r49, rfl, rfl, h⟩ := hq49
    refine k_perm C [0, 1, 2, 3, 4, 5, 6, 7, 8, 9, 10, 11, 12, 13, 14, 15, 16] [.int (iI r49), .int (iI x6)] ((wdM cI cJ cZ qh B_h P_h N_h L_h E_h V_h G_h D_h O_h Z_h R_h I_h)) rfl rfl rfl ?_
    obtain ⟨hr52a, hr52b, h⟩ := h
    obtain ⟨ht, hf⟩ := h
    refine k_icmp_ge C dX7_high_52 ⟨hr52a, hr52b⟩ 106 55 (by decide) rfl (fun hc52 => ?_) (fun hc52 => ?_)
    · have h := ht hc52; clear ht hf
      refine k_lv C [0, 1, 2, 3, 4, 5] [(0, .ref (qh 0)), (1, .int (iI x1)), (2, .int (iI x2)), (3, .int (iI x3)), (4, .int (iI x4)), (5, .int (iI x5))] rfl ?_
      exact hK_106 x1 x2 x3 x4 x5 N_h L_h Z_h h
    · have h := hf hc52; clear ht hf
      refine k_aload_n C dX7_high_55 0 rfl rfl 56 rfl ?_
      refine k_iload C dX7_high_56 6 rfl 58 rfl ?_
      refine k_iload C dX7_high_58 5 rfl 60 rfl ?_
      have hM := c_X7_putsBy (l := l) (D := D) (cI := cI) (cJ := cJ) (cZ := cZ) qh B_h P_h N_h L_h E_h V_h G_h D_h O_h Z_h R_h I_h x6 x5 _ h
      refine k_callV C dX7_high_60 hM gX7_high_X7_putsBy rfl sg_X7_putsBy 7 rfl rfl rfl (Nat.le_of_ble_eq_true rfl) ⟨⟨rfl, rfl⟩, by decide, by decide⟩ ⟨Nat.le_refl 0, Nat.le_refl 0⟩ [0, 1, 2, 3, 4, 5, 6, 7, 8, 9, 10, 11, 12, 13, 14, 15, 16] [] rfl rfl rfl rfl (by decide) 0 0 ⟨rfl, rfl⟩ 63 rfl (fun v w1 hq60 => ?_)
      obtain ⟨r60, N_h_60, L_h_60, Z_h_60, rfl, rfl, hb60, h⟩ := hq60
      refine k_perm C [0, 1, 2, 3, 4, 5, 6, 7, 8, 9, 10, 11, 12, 13, 14, 15, 16] [.int (iI r60)] ((wdM cI cJ cZ qh B_h P_h N_h_60 L_h_60 E_h V_h G_h D_h O_h Z_h_60 R_h I_h)) rfl rfl rfl ?_
      obtain ⟨ht, hf⟩ := h
      refine k_if_eq C dX7_high_63 (by rcases hb60 with rfl | rfl <;> decide) 100 66 (by decide) rfl (fun hc63 => ?_) (fun hc63 => ?_)
      · have h := ht hc63; clear ht hf
        refine k_iinc (j := 6) C dX7_high_100 rfl (by decide) [(6, .int (iI (x6 + 1))), (0, .ref (qh 0)), (1, .int (iI x1)), (2, .int (iI x2)), (3, .int (iI x3)), (4, .int (iI x4)), (5, .int (iI x5))] rfl 103 rfl ?_
        refine k_goto C dX7_high_103 45 (by decide) ?_
        refine k_lv C [1, 2, 3, 4, 5, 6, 0] [(0, .ref (qh 0)), (1, .int (iI x1)), (2, .int (iI x2)), (3, .int (iI x3)), (4, .int (iI x4)), (5, .int (iI x5)), (6, .int (iI (x6 + 1)))] rfl ?_
        exact ih x1 x2 x3 x4 x5 (x6 + 1) N_h_60 L_h_60 Z_h_60 h hK_106
      · have h := hf hc63; clear ht hf
        refine k_aload_n C dX7_high_66 0 rfl rfl 67 rfl ?_
        have hM := c_X7_highest (l := l) (D := D) (cI := cI) (cJ := cJ) (cZ := cZ) qh B_h P_h N_h_60 L_h_60 E_h V_h G_h D_h O_h Z_h_60 R_h I_h _ h
        refine k_callV C dX7_high_67 hM gX7_high_X7_highest rfl sg_X7_highest 7 rfl rfl rfl (Nat.le_of_ble_eq_true rfl) ⟨⟨rfl, rfl⟩, by decide, by decide⟩ ⟨Nat.le_refl 0, Nat.le_refl 0⟩ [0, 1, 2, 3, 4, 5, 6, 7, 8, 9, 10, 11, 12, 13, 14, 15, 16] [] rfl rfl rfl rfl (by decide) 0 0 ⟨rfl, rfl⟩ 70 rfl (fun v w1 hq67 => ?_)
        obtain ⟨r67, rfl, rfl, h⟩ := hq67
        refine k_perm C [0, 1, 2, 3, 4, 5, 6, 7, 8, 9, 10, 11, 12, 13, 14, 15, 16] [.int (iI r67)] ((wdM cI cJ cZ qh B_h P_h N_h_60 L_h_60 E_h V_h G_h D_h O_h Z_h_60 R_h I_h)) rfl rfl rfl ?_
        refine k_istore C dX7_high_70 (by decide) [(7, .int (iI r67)), (0, .ref (qh 0)), (1, .int (iI x1)), (2, .int (iI x2)), (3, .int (iI x3)), (4, .int (iI x4)), (5, .int (iI x5)), (6, .int (iI x6))] rfl 72 rfl ?_
        refine k_iload C dX7_high_72 0 rfl 74 rfl ?_
        refine k_iload_n C dX7_high_74 4 rfl rfl 75 rfl ?_
        obtain ⟨hr75a, hr75b, h⟩ := h
        obtain ⟨ht, hf⟩ := h
        refine k_icmp_le C dX7_high_75 ⟨hr75a, hr75b⟩ 83 78 (by decide) rfl (fun hc75 => ?_) (fun hc75 => ?_)
        · have h := ht hc75; clear ht hf
          refine k_iload C dX7_high_83 5 rfl 85 rfl ?_
          refine k_lv C [1, 2, 3, 4, 6, 7, 0] [(0, .ref (qh 0)), (1, .int (iI x1)), (2, .int (iI x2)), (3, .int (iI x3)), (5, .int (iI x5)), (6, .int (iI x6)), (7, .int (iI r67))] rfl ?_
          refine w_X7_high_85 C x1 x2 x3 x5 x6 r67 x4 N_h_60 L_h_60 Z_h_60 h (fun x1 x2 x3 x4 x5 x6 N_h L_h Z_h h => ?_)
          · exact ih x1 x2 x3 x4 x5 x6 N_h L_h Z_h h hK_106
        · have h := hf hc75; clear ht hf
          refine k_iload C dX7_high_78 6 rfl 80 rfl ?_
          refine k_goto C dX7_high_80 85 (by decide) ?_
          refine k_lv C [1, 2, 3, 4, 6, 7, 0] [(0, .ref (qh 0)), (1, .int (iI x1)), (2, .int (iI x2)), (3, .int (iI x3)), (5, .int (iI x5)), (6, .int (iI x6)), (7, .int (iI r67))] rfl ?_
          refine w_X7_high_85 C x1 x2 x3 x5 x6 r67 x5 N_h_60 L_h_60 Z_h_60 h (fun x1 x2 x3 x4 x5 x6 N_h L_h Z_h h => ?_)
          · exact ih x1 x2 x3 x4 x5 x6 N_h L_h Z_h h hK_106
set_option maxHeartbeats 4000000 in
set_option maxRecDepth 20000 in
theorem w_X7_high_36 {l : Launch} {D : va_G} {cI cJ cZ : ClassId} {A : Nat → Prop} {K : KT} {qh : Nat → Nat} {B_h : gMB} {P_h : gMP} {E_h : gME} {V_h : gMV} {G_h : gMG} {D_h : gMD} {O_h : gMO} {R_h : gMR} {I_h : gMI} {Q : Int → gMN → gML → gMZ → Prop} {K_112 : Int → Int → Int → gMN → gML → gMZ → Prop} (C : KC cX7_high yX7_high.cls wsX7_high rm_X7_high 8 D (kT cI cJ cZ) A l false (rp_X7_high cI cJ cZ qh B_h P_h E_h V_h G_h D_h O_h R_h I_h Q) 0 0 K) : ∀ (n : Nat) (x1 : Int) (x2 : Int) (x3 : Int) (x4 : Int) (x5 : Int) (N_h : gMN) (L_h : gML) (Z_h : gMZ), wp_X7_high_36 B_h P_h K_112 Q n x1 x2 x3 x4 x5 N_h L_h Z_h → (∀ (x1 : Int) (x3 : Int) (x4 : Int) (N_h : gMN) (L_h : gML) (Z_h : gMZ), K_112 x1 x3 x4 N_h L_h Z_h → K 0 0 112 [(1, .int (iI x1)), (3, .int (iI x3)), (4, .int (iI x4))] [] ((wdM cI cJ cZ qh B_h P_h N_h L_h E_h V_h G_h D_h O_h Z_h R_h I_h))) → K 0 0 36 [(0, .ref (qh 0)), (1, .int (iI x1)), (2, .int (iI x2)), (3, .int (iI x3)), (4, .int (iI x4)), (5, .int (iI x5))] [] ((wdM cI cJ cZ qh B_h P_h N_h L_h E_h V_h G_h D_h O_h Z_h R_h I_h)) := by
  intro n
  induction n with
  | zero => intro x1 x2 x3 x4 x5 N_h L_h Z_h h; exact h.elim
  | succ n ih =>
    intro x1 x2 x3 x4 x5 N_h L_h Z_h h hK_112
    refine k_iload C dX7_high_36 5 rfl 38 rfl ?_
    refine k_iload_n C dX7_high_38 2 rfl rfl 39 rfl ?_
    obtain ⟨hr39a, hr39b, h⟩ := h
    obtain ⟨ht, hf⟩ := h
    refine k_icmp_gt C dX7_high_39 ⟨hr39a, hr39b⟩ 112 42 (by decide) rfl (fun hc39 => ?_) (fun hc39 => ?_)
    · have h := ht hc39; clear ht hf
      refine k_lv C [1, 3, 4] [(1, .int (iI x1)), (3, .int (iI x3)), (4, .int (iI x4))] rfl ?_
      exact hK_112 x1 x3 x4 N_h L_h Z_h h
    · have h := hf hc39; clear ht hf
      refine k_iconst C dX7_high_42 43 rfl ?_
      refine k_istore C dX7_high_43 (by decide) [(6, .int (iI 0)), (0, .ref (qh 0)), (1, .int (iI x1)), (2, .int (iI x2)), (3, .int (iI x3)), (4, .int (iI x4)), (5, .int (iI x5))] rfl 45 rfl ?_
      refine k_lv C [1, 2, 3, 4, 5, 6, 0] [(0, .ref (qh 0)), (1, .int (iI x1)), (2, .int (iI x2)), (3, .int (iI x3)), (4, .int (iI x4)), (5, .int (iI x5)), (6, .int (iI 0))] rfl ?_
      obtain ⟨m45, h⟩ := h
      refine w_X7_high_45 C m45 x1 x2 x3 x4 x5 0 N_h L_h Z_h h (fun x1 x2 x3 x4 x5 N_h L_h Z_h h => ?_)
      · refine k_iinc (j := 5) C dX7_high_106 rfl (by decide) [(5, .int (iI (x5 + 1))), (0, .ref (qh 0)), (1, .int (iI x1)), (2, .int (iI x2)), (3, .int (iI x3)), (4, .int (iI x4))] rfl 109 rfl ?_
        refine k_goto C dX7_high_109 36 (by decide) ?_
        refine k_lv C [1, 2, 3, 4, 5, 0] [(0, .ref (qh 0)), (1, .int (iI x1)), (2, .int (iI x2)), (3, .int (iI x3)), (4, .int (iI x4)), (5, .int (iI (x5 + 1)))] rfl ?_
        exact ih x1 x2 x3 x4 (x5 + 1) N_h L_h Z_h h hK_112
set_option maxHeartbeats 4000000 in
set_option maxRecDepth 20000 in
theorem c_X7_high {l : Launch} {D : va_G} {cI cJ cZ : ClassId} (qh : Nat → Nat) (B_h : gMB) (P_h : gMP) (N_h : gMN) (L_h : gML) (E_h : gME) (V_h : gMV) (G_h : gMG) (D_h : gMD) (O_h : gMO) (Z_h : gMZ) (R_h : gMR) (I_h : gMI) (x1 : Int) (Q : Int → gMN → gML → gMZ → Prop) (h : wp_X7_high B_h P_h N_h L_h Z_h x1 Q) : KM l D (kT cI cJ cZ) 0 0 yX7_high wsX7_high rm_X7_high [.ref (qh 0), .int (iI x1)] ((wdM cI cJ cZ qh B_h P_h N_h L_h E_h V_h G_h D_h O_h Z_h R_h I_h)) (rp_X7_high cI cJ cZ qh B_h P_h E_h V_h G_h D_h O_h R_h I_h Q) := by
  refine KM_intro (lv := [(0, .ref (qh 0)), (1, .int (iI x1))]) false rfl (by decide) (Nat.le_of_ble_eq_true rfl) rfl (fun h => absurd h (by decide)) (fun v ws hq => by obtain ⟨r, N_h, L_h, Z_h, rfl, rfl, _⟩ := hq; exact Or.inr (Or.inl ⟨rfl, _, rfl⟩)) (fun A K C => ?_)
  refine k_iload_n C dX7_high_0 1 rfl rfl 1 rfl ?_
  refine k_iconst C dX7_high_1 2 rfl ?_
  refine k_iconst C dX7_high_2 3 rfl ?_
  have hM := c_X7_in (l := l) (D := D) (cI := cI) (cJ := cJ) (cZ := cZ) x1 0 1 _ h
  refine k_callS C dX7_high_3 hM gX7_high_X7_in rfl sg_X7_in rfl (Nat.le_of_ble_eq_true rfl) ⟨⟨rfl, rfl⟩, by decide, by decide⟩ ⟨Nat.le_refl 0, Nat.le_refl 0⟩ [] [0, 1, 2, 3, 4, 5, 6, 7, 8, 9, 10, 11, 12, 13, 14, 15, 16] rfl rfl rfl rfl (by decide) 0 0 ⟨rfl, rfl⟩ 6 rfl (fun v w1 hq3 => ?_)
  obtain ⟨r3, rfl, rfl, hb3, h⟩ := hq3
  refine k_perm C [0, 1, 2, 3, 4, 5, 6, 7, 8, 9, 10, 11, 12, 13, 14, 15, 16] [.int (iI r3)] ((wdM cI cJ cZ qh B_h P_h N_h L_h E_h V_h G_h D_h O_h Z_h R_h I_h)) rfl rfl rfl ?_
  obtain ⟨ht, hf⟩ := h
  refine k_if_ne C dX7_high_6 (by rcases hb3 with rfl | rfl <;> decide) 12 9 (by decide) rfl (fun hc6 => ?_) (fun hc6 => ?_)
  · have h := ht hc6; clear ht hf
    refine k_aload_n C dX7_high_12 0 rfl rfl 13 rfl ?_
    have hM := c_X7_outside (l := l) (D := D) (cI := cI) (cJ := cJ) (cZ := cZ) qh B_h P_h N_h L_h E_h V_h G_h D_h O_h Z_h R_h I_h _ h
    refine k_callV C dX7_high_13 hM gX7_high_X7_outside rfl sg_X7_outside 7 rfl rfl rfl (Nat.le_of_ble_eq_true rfl) ⟨⟨rfl, rfl⟩, by decide, by decide⟩ ⟨Nat.le_refl 0, Nat.le_refl 0⟩ [0, 1, 2, 3, 4, 5, 6, 7, 8, 9, 10, 11, 12, 13, 14, 15, 16] [] rfl rfl rfl rfl (by decide) 0 0 ⟨rfl, rfl⟩ 16 rfl (fun v w1 hq13 => ?_)
    obtain ⟨r13, rfl, rfl, h⟩ := hq13
    refine k_perm C [0, 1, 2, 3, 4, 5, 6, 7, 8, 9, 10, 11, 12, 13, 14, 15, 16] [.int (iI r13)] ((wdM cI cJ cZ qh B_h P_h N_h L_h E_h V_h G_h D_h O_h Z_h R_h I_h)) rfl rfl rfl ?_
    have hM := c_X7_bits (l := l) (D := D) (cI := cI) (cJ := cJ) (cZ := cZ) r13 _ h
    refine k_callS C dX7_high_16 hM gX7_high_X7_bits rfl sg_X7_bits rfl (Nat.le_of_ble_eq_true rfl) ⟨⟨rfl, rfl⟩, by decide, by decide⟩ ⟨Nat.le_refl 0, Nat.le_refl 0⟩ [] [0, 1, 2, 3, 4, 5, 6, 7, 8, 9, 10, 11, 12, 13, 14, 15, 16] rfl rfl rfl rfl (by decide) 0 0 ⟨rfl, rfl⟩ 19 rfl (fun v w1 hq16 => ?_)
    obtain ⟨r16, rfl, rfl, h⟩ := hq16
    refine k_perm C [0, 1, 2, 3, 4, 5, 6, 7, 8, 9, 10, 11, 12, 13, 14, 15, 16] [.int (iI r16)] ((wdM cI cJ cZ qh B_h P_h N_h L_h E_h V_h G_h D_h O_h Z_h R_h I_h)) rfl rfl rfl ?_
    refine k_istore_n C dX7_high_19 rfl (by decide) [(2, .int (iI r16)), (0, .ref (qh 0)), (1, .int (iI x1))] rfl 20 rfl ?_
    refine k_iload_n C dX7_high_20 0 rfl rfl 21 rfl ?_
    refine k_iconst C dX7_high_21 22 rfl ?_
    obtain ⟨hr22a, h⟩ := h
    obtain ⟨ht, hf⟩ := h
    refine k_icmp_le C dX7_high_22 ⟨hr22a, (by decide)⟩ 28 25 (by decide) rfl (fun hc22 => ?_) (fun hc22 => ?_)
    · have h := ht hc22; clear ht hf
      refine k_iconst C dX7_high_28 29 rfl ?_
      refine k_istore_n C dX7_high_29 rfl (by decide) [(3, .int (iI (-1))), (2, .int (iI r16)), (0, .ref (qh 0)), (1, .int (iI x1))] rfl 30 rfl ?_
      refine k_iconst C dX7_high_30 31 rfl ?_
      refine k_istore C dX7_high_31 (by decide) [(4, .int (iI 0)), (3, .int (iI (-1))), (2, .int (iI r16)), (0, .ref (qh 0)), (1, .int (iI x1))] rfl 33 rfl ?_
      refine k_iconst C dX7_high_33 34 rfl ?_
      refine k_istore C dX7_high_34 (by decide) [(5, .int (iI 0)), (4, .int (iI 0)), (3, .int (iI (-1))), (2, .int (iI r16)), (0, .ref (qh 0)), (1, .int (iI x1))] rfl 36 rfl ?_
      refine k_lv C [4, 5, 3, 2, 1, 0] [(0, .ref (qh 0)), (1, .int (iI x1)), (2, .int (iI r16)), (3, .int (iI (-1))), (4, .int (iI 0)), (5, .int (iI 0))] rfl ?_
      obtain ⟨m36, h⟩ := h
      refine w_X7_high_36 C m36 x1 r16 (-1) 0 0 N_h L_h Z_h h (fun x1 x3 x4 N_h L_h Z_h h => ?_)
      · refine k_iload_n C dX7_high_112 0 rfl rfl 113 rfl ?_
        obtain ⟨hr113a, h⟩ := h
        obtain ⟨ht, hf⟩ := h
        refine k_if_ne C dX7_high_113 hr113a 120 116 (by decide) rfl (fun hc113 => ?_) (fun hc113 => ?_)
        · have h := ht hc113; clear ht hf
          refine k_iload C dX7_high_120 2 rfl 122 rfl ?_
          exact k_iret C dX7_high_122 ⟨x4, N_h, L_h, Z_h, rfl, rfl, h⟩
        · have h := hf hc113; clear ht hf
          refine k_iload_n C dX7_high_116 1 rfl rfl 117 rfl ?_
          refine k_goto C dX7_high_117 122 (by decide) ?_
          exact k_iret C dX7_high_122 ⟨x3, N_h, L_h, Z_h, rfl, rfl, h⟩
    · have h := hf hc22; clear ht hf
      refine k_bipush C dX7_high_25 (by decide) 27 rfl ?_
      exact k_iret C dX7_high_27 ⟨(-4), N_h, L_h, Z_h, rfl, rfl, h⟩
  · have h := hf hc6; clear ht hf
    refine k_bipush C dX7_high_9 (by decide) 11 rfl ?_
    exact k_iret C dX7_high_11 ⟨(-2), N_h, L_h, Z_h, rfl, rfl, h⟩
