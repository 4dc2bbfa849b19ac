/-! X6_year -/
abbrev rm_X6_year : Room := { frames := 4, cells := 0, slots := 0, locals := 132 }
theorem sg_X6_year : yX6_year.cls ≠ "java/lang/invoke/MethodHandle" ∧ yX6_year.cls ≠ "java/lang/invoke/VarHandle" ∧ (parseMethodDescriptor yX6_year.desc).map (fun d => d.parameters.length) = some 3 := by decide +kernel
theorem hin_X6_year_5 : ∀ w ∈ wsX50, w ∈ wsX6_year := fun _ h => List.mem_cons_of_mem _ (List.mem_append_right _ h)
theorem hin_X6_year_6 : ∀ w ∈ wsX60, w ∈ wsX6_year := fun _ h => List.mem_cons_of_mem _ (List.mem_append_left _ (List.mem_append_right _ h))
def rp_X6_year (cI cJ cZ : ClassId) (qh : Nat → Nat) (qn : Nat → Nat) (qr : Nat → Nat) (qs : Nat → Nat) (qp : Nat → Nat) (qi : Nat → Nat) (qj : Nat → Nat) (qw : Nat → Nat) (qo : Nat → Nat) (S_n : gWS) (T_n : gWT) (U_n : gWU) (Q : Int → gWS → gWT → gWU → Prop) : Option Value → va_W → Prop := fun v w1 => ∃ (r : Int) (S_r : gWS) (T_r : gWT) (U_r : gWU), v = some (.int (iI r)) ∧ w1 = (wdX cI cJ cZ qh qn qr qs qp qi qj qw qo ) ++ (wdW cI cJ cZ qn S_n T_n U_n) ++ (wdW cI cJ cZ qr S_r T_r U_r) ∧ Q r S_r T_r U_r
def wp_X6_year_133 (K_59 : Int → Int → Int → Int → Int → Int → Int → gWS → gWT → gWU → Prop)  (Q : Int → gWS → gWT → gWU → Prop) (x2 : Int) (x3 : Int) (x4 : Int) (x5 : Int) (x6 : Int) (x7 : Int) (x8 : Int) (S_r : gWS) (T_r : gWT) (U_r : gWU) : Prop :=
    wp_X5_tallest T_r (fun (r139 : Int) => rI x7 ∧ rI r139 ∧ K_59 x2 x3 x4 x5 x6 (max x7 r139) (x8 + 1) S_r T_r U_r)
def wp_X6_year_59 (K_153 : Int → Int → Int → Int → gWS → gWT → gWU → Prop)  (Q : Int → gWS → gWT → gWU → Prop) : Nat → Int → Int → Int → Int → Int → Int → Int → gWS → gWT → gWU → Prop
  | 0, _, _, _, _, _, _, _, _, _, _ => False
  | n59 + 1, x2, x3, x4, x5, x6, x7, x8, S_r, T_r, U_r =>
    rI x8 ∧ rI x2 ∧ ((x2 ≤ x8 → K_153 x3 x5 x6 x7 S_r T_r U_r) ∧ (¬ (x2 ≤ x8) → rI ((75 * x4) + 74) ∧ rI (((75 * x4) + 74).tmod 65537) ∧ wp_X6_leftOver ((((75 * x4) + 74).tmod 65537).tdiv 10) S_r.1 (fun (r103 : Int) => wp_X5_put S_r T_r U_r ((((75 * x4) + 74).tmod 65537).tmod 10) r103 (fun (r106 : Int) (T_r_106 : gWT) (U_r_106 : gWU) => rI r106 ∧ ((¬ r106 = 0 → wp_X5_take S_r T_r_106 ((((75 * x4) + 74).tmod 65537).tmod 10) (fun (r124 : Int) (T_r_124 : gWT) => rI r124 ∧ ((¬ r124 = 0 → wp_X6_year_133 (fun (x2 : Int) (x3 : Int) (x4 : Int) (x5 : Int) (x6 : Int) (x7 : Int) (x8 : Int) (S_r : gWS) (T_r : gWT) (U_r : gWU) => wp_X6_year_59 K_153 Q n59 x2 x3 x4 x5 x6 x7 x8 S_r T_r U_r) Q x2 x3 (((75 * x4) + 74).tmod 65537) x5 x6 x7 x8 S_r T_r_124 U_r_106) ∧ (¬ (¬ r124 = 0) → wp_X6_year_133 (fun (x2 : Int) (x3 : Int) (x4 : Int) (x5 : Int) (x6 : Int) (x7 : Int) (x8 : Int) (S_r : gWS) (T_r : gWT) (U_r : gWU) => wp_X6_year_59 K_153 Q n59 x2 x3 x4 x5 x6 x7 x8 S_r T_r U_r) Q x2 x3 (((75 * x4) + 74).tmod 65537) x5 (x6 + 1) x7 x8 S_r T_r_124 U_r_106)))) ∧ (¬ (¬ r106 = 0) → wp_X6_year_133 (fun (x2 : Int) (x3 : Int) (x4 : Int) (x5 : Int) (x6 : Int) (x7 : Int) (x8 : Int) (S_r : gWS) (T_r : gWT) (U_r : gWU) => wp_X6_year_59 K_153 Q n59 x2 x3 x4 x5 x6 x7 x8 S_r T_r U_r) Q x2 x3 (((75 * x4) + 74).tmod 65537) (x5 + 1) x6 x7 x8 S_r T_r_106 U_r_106))))))
def wp_X6_year (S_n : gWS) (T_n : gWT) (S_r : gWS) (T_r : gWT) (U_r : gWU) (x1 : Int) (x2 : Int) (x3 : Int) (Q : Int → gWS → gWT → gWU → Prop) : Prop :=
    wp_X6_isOutside x1 0 9999 (fun (r5 : Int) => ((¬ r5 = 0 → Q (-2) S_r T_r U_r) ∧ (¬ (¬ r5 = 0) → wp_X6_isOutside x2 1 99 (fun (r15 : Int) => ((¬ r15 = 0 → Q (-2) S_r T_r U_r) ∧ (¬ (¬ r15 = 0) → wp_X6_isOutside x3 0 2 (fun (r24 : Int) => ((r24 = 0 → wp_X5_become S_r T_r S_n T_n (fun (S_r_41 : gWS) (T_r_41 : gWT) => ∃ m59, wp_X6_year_59 (fun (x3 : Int) (x5 : Int) (x6 : Int) (x7 : Int) (S_r : gWS) (T_r : gWT) (U_r : gWU) => rI x3 ∧ ((¬ x3 = 0 → ((¬ x3 = 1 → Q x7 S_r T_r U_r) ∧ (¬ (¬ x3 = 1) → Q x6 S_r T_r U_r))) ∧ (¬ (¬ x3 = 0) → Q x5 S_r T_r U_r))) Q m59 x2 x3 x1 0 0 0 0 S_r_41 T_r_41 U_r)) ∧ (¬ (r24 = 0) → Q (-2) S_r T_r U_r)))))))))
set_option maxHeartbeats 4000000 in
set_option maxRecDepth 20000 in
theorem w_X6_year_133 {l : Launch} {D : va_G} {cI cJ cZ : ClassId} {A : Nat → Prop} {K : KT} {qh : Nat → Nat} {qn : Nat → Nat} {qr : Nat → Nat} {qs : Nat → Nat} {qp : Nat → Nat} {qi : Nat → Nat} {qj : Nat → Nat} {qw : Nat → Nat} {qo : Nat → Nat} {S_n : gWS} {T_n : gWT} {U_n : gWU} {Q : Int → gWS → gWT → gWU → Prop} {K_59 : Int → Int → Int → Int → Int → Int → Int → gWS → gWT → gWU → Prop} (C : KC cX6_year yX6_year.cls wsX6_year rm_X6_year 10 D (kT cI cJ cZ) A l false (rp_X6_year cI cJ cZ qh qn qr qs qp qi qj qw qo S_n T_n U_n Q) 0 0 K) : ∀ (x2 : Int) (x3 : Int) (x4 : Int) (x5 : Int) (x6 : Int) (x7 : Int) (x8 : Int) (S_r : gWS) (T_r : gWT) (U_r : gWU), wp_X6_year_133 K_59 Q x2 x3 x4 x5 x6 x7 x8 S_r T_r U_r → (∀ (x2 : Int) (x3 : Int) (x4 : Int) (x5 : Int) (x6 : Int) (x7 : Int) (x8 : Int) (S_r : gWS) (T_r : gWT) (U_r : gWU), K_59 x2 x3 x4 x5 x6 x7 x8 S_r T_r U_r → K 0 0 59 [(0, .ref (qh 0)), (2, .int (iI x2)), (3, .int (iI x3)), (4, .int (iI x4)), (5, .int (iI x5)), (6, .int (iI x6)), (7, .int (iI x7)), (8, .int (iI x8))] [] ((wdX cI cJ cZ qh qn qr qs qp qi qj qw qo ) ++ (wdW cI cJ cZ qn S_n T_n U_n) ++ (wdW cI cJ cZ qr S_r T_r U_r))) → K 0 0 133 [(0, .ref (qh 0)), (2, .int (iI x2)), (3, .int (iI x3)), (4, .int (iI x4)), (5, .int (iI x5)), (6, .int (iI x6)), (7, .int (iI x7)), (8, .int (iI x8))] [] ((wdX cI cJ cZ qh qn qr qs qp qi qj qw qo ) ++ (wdW cI cJ cZ qn S_n T_n U_n) ++ (wdW cI cJ cZ qr S_r T_r U_r)) := by
  intro x2 x3 x4 x5 x6 x7 x8 S_r T_r U_r h hK_59
  refine k_iload C dX6_year_133 6 rfl 135 rfl ?_
  refine k_aload_n C dX6_year_135 0 rfl rfl 136 rfl ?_
  refine k_get C dX6_year_136 0 rfl (ci := 6) rfl hin_X6_year_6 1 (by decide) (List.mem_of_getElem? (i := 1) rfl) rfl 139 rfl ?_
  have hM := c_X5_tallest (l := l) (D := D) (cI := cI) (cJ := cJ) (cZ := cZ) qr S_r T_r U_r _ h
  refine k_callV C dX6_year_139 hM gX6_year_X5_tallest rfl sg_X5_tallest 5 rfl rfl rfl (Nat.le_of_ble_eq_true rfl) ⟨⟨rfl, rfl⟩, by decide, by decide⟩ ⟨Nat.le_refl 0, Nat.le_refl 0⟩ [10, 11, 12, 13, 14, 15, 16, 17, 18] [0, 1, 2, 3, 4, 5, 6, 7, 8, 9] rfl rfl rfl rfl (by decide) 0 0 ⟨rfl, rfl⟩ 142 rfl (fun v w1 hq139 => ?_)
  obtain ⟨r139, rfl, rfl, h⟩ := hq139
  refine k_perm C [0, 1, 2, 3, 4, 5, 6, 7, 8, 9, 10, 11, 12, 13, 14, 15, 16, 17, 18] [.int (iI r139), .int (iI x7)] ((wdX cI cJ cZ qh qn qr qs qp qi qj qw qo ) ++ (wdW cI cJ cZ qn S_n T_n U_n) ++ (wdW cI cJ cZ qr S_r T_r U_r)) rfl rfl rfl ?_
  obtain ⟨hr142a, hr142b, h⟩ := h
  refine k_mmax C dX6_year_142 (List.mem_of_getElem? (i := 4) rfl) (List.mem_of_getElem? (i := 5) rfl) (List.mem_of_getElem? (i := 6) rfl) (List.mem_of_getElem? (i := 7) rfl) (by decide) (Nat.le_of_ble_eq_true rfl) ⟨Nat.zero_le _, Nat.zero_le _⟩ ⟨hr142a, hr142b⟩ 145 rfl ?_
  refine k_istore C dX6_year_145 (by decide) [(7, .int (iI (max x7 r139))), (0, .ref (qh 0)), (2, .int (iI x2)), (3, .int (iI x3)), (4, .int (iI x4)), (5, .int (iI x5)), (6, .int (iI x6)), (8, .int (iI x8))] rfl 147 rfl ?_
  refine k_iinc (j := 7) C dX6_year_147 rfl (by decide) [(8, .int (iI (x8 + 1))), (7, .int (iI (max x7 r139))), (0, .ref (qh 0)), (2, .int (iI x2)), (3, .int (iI x3)), (4, .int (iI x4)), (5, .int (iI x5)), (6, .int (iI x6))] rfl 150 rfl ?_
  refine k_goto C dX6_year_150 59 (by decide) ?_
  refine k_lv C [2, 3, 4, 5, 6, 7, 1, 0] [(0, .ref (qh 0)), (2, .int (iI x2)), (3, .int (iI x3)), (4, .int (iI x4)), (5, .int (iI x5)), (6, .int (iI x6)), (7, .int (iI (max x7 r139))), (8, .int (iI (x8 + 1)))] rfl ?_
  exact hK_59 x2 x3 x4 x5 x6 (max x7 r139) (x8 + 1) S_r T_r U_r h
set_option maxHeartbeats 4000000 in
set_option maxRecDepth 20000 in
theorem w_X6_year_59 {l : Launch} {D : va_G} {cI cJ cZ : ClassId} {A : Nat → Prop} {K : KT} {qh : Nat → Nat} {qn : Nat → Nat} {qr : Nat → Nat} {qs : Nat → Nat} {qp : Nat → Nat} {qi : Nat → Nat} {qj : Nat → Nat} {qw : Nat → Nat} {qo : Nat → Nat} {S_n : gWS} {T_n : gWT} {U_n : gWU} {Q : Int → gWS → gWT → gWU → Prop} {K_153 : Int → Int → Int → Int → gWS → gWT → gWU → Prop} (C : KC cX6_year yX6_year.cls wsX6_year rm_X6_year 10 D (kT cI cJ cZ) A l false (rp_X6_year cI cJ cZ qh qn qr qs qp qi qj qw qo S_n T_n U_n Q) 0 0 K) : ∀ (n : Nat) (x2 : Int) (x3 : Int) (x4 : Int) (x5 : Int) (x6 : Int) (x7 : Int) (x8 : Int) (S_r : gWS) (T_r : gWT) (U_r : gWU), wp_X6_year_59 K_153 Q n x2 x3 x4 x5 x6 x7 x8 S_r T_r U_r → (∀ (x3 : Int) (x5 : Int) (x6 : Int) (x7 : Int) (S_r : gWS) (T_r : gWT) (U_r : gWU), K_153 x3 x5 x6 x7 S_r T_r U_r → K 0 0 153 [(3, .int (iI x3)), (5, .int (iI x5)), (6, .int (iI x6)), (7, .int (iI x7))] [] ((wdX cI cJ cZ qh qn qr qs qp qi qj qw qo ) ++ (wdW cI cJ cZ qn S_n T_n U_n) ++ (wdW cI cJ cZ qr S_r T_r U_r))) → K 0 0 59 [(0, .ref (qh 0)), (2, .int (iI x2)), (3, .int (iI x3)), (4, .int (iI x4)), (5, .int (iI x5)), (6, .int (iI x6)), (7, .int (iI x7)), (8, .int (iI x8))] [] ((wdX cI cJ cZ qh qn qr qs qp qi qj qw qo ) ++ (wdW cI cJ cZ qn S_n T_n U_n) ++ (wdW cI cJ cZ qr S_r T_r U_r)) := by
  intro n
  induction n with
  | zero => intro x2 x3 x4 x5 x6 x7 x8 S_r T_r U_r h; exact h.elim
  | succ n ih =>
    intro x2 x3 x4 x5 x6 x7 x8 S_r T_r U_r h hK_153
    refine k_iload C dX6_year_59 7 rfl 61 rfl ?_
    refine k_iload_n C dX6_year_61 1 rfl rfl 62 rfl ?_
    obtain ⟨hr62a, hr62b, h⟩ := h
    obtain ⟨ht, hf⟩ := h
    refine k_icmp_ge C dX6_year_62 ⟨hr62a, hr62b⟩ 153 65 (by decide) rfl (fun hc62 => ?_) (fun hc62 => ?_)
    · have h := ht hc62; clear ht hf
      refine k_lv C [2, 4, 5, 6] [(3, .int (iI x3)), (5, .int (iI x5)), (6, .int (iI x6)), (7, .int (iI x7))] rfl ?_
      exact hK_153 x3 x5 x6 x7 S_r T_r U_r h
    · have h := hf hc62; clear ht hf
      refine k_bipush C dX6_year_65 (by decide) 67 rfl ?_
      refine k_iload C dX6_year_67 3 rfl 69 rfl ?_
      refine k_imul C dX6_year_69 70 rfl ?_
      refine k_bipush C dX6_year_70 (by decide) 72 rfl ?_
      refine k_iadd C dX6_year_72 73 rfl ?_
      refine k_ldc (v := 65537) C dX6_year_73 (List.mem_of_getElem? (i := 3) rfl) (by decide) 75 rfl ?_
      obtain ⟨hr75a, h⟩ := h
      refine k_irem C dX6_year_75 ⟨hr75a, (by decide), (by decide)⟩ 76 rfl ?_
      refine k_istore C dX6_year_76 (by decide) [(4, .int (iI (((75 * x4) + 74).tmod 65537))), (0, .ref (qh 0)), (2, .int (iI x2)), (3, .int (iI x3)), (5, .int (iI x5)), (6, .int (iI x6)), (7, .int (iI x7)), (8, .int (iI x8))] rfl 78 rfl ?_
      refine k_iload C dX6_year_78 0 rfl 80 rfl ?_
      refine k_bipush C dX6_year_80 (by decide) 82 rfl ?_
      obtain ⟨hr82a, h⟩ := h
      refine k_irem C dX6_year_82 ⟨hr82a, (by decide), (by decide)⟩ 83 rfl ?_
      refine k_istore C dX6_year_83 (by decide) [(9, .int (iI ((((75 * x4) + 74).tmod 65537).tmod 10))), (4, .int (iI (((75 * x4) + 74).tmod 65537))), (0, .ref (qh 0)), (2, .int (iI x2)), (3, .int (iI x3)), (5, .int (iI x5)), (6, .int (iI x6)), (7, .int (iI x7)), (8, .int (iI x8))] rfl 85 rfl ?_
      refine k_aload_n C dX6_year_85 2 rfl rfl 86 rfl ?_
      refine k_get C dX6_year_86 0 rfl (ci := 6) rfl hin_X6_year_6 1 (by decide) (List.mem_of_getElem? (i := 1) rfl) rfl 89 rfl ?_
      refine k_iload C dX6_year_89 0 rfl 91 rfl ?_
      refine k_iload C dX6_year_91 1 rfl 93 rfl ?_
      refine k_bipush C dX6_year_93 (by decide) 95 rfl ?_
      refine k_idiv C dX6_year_95 ⟨hr82a, (by decide), (by decide)⟩ 96 rfl ?_
      refine k_aload_n C dX6_year_96 2 rfl rfl 97 rfl ?_
      refine k_get C dX6_year_97 0 rfl (ci := 6) rfl hin_X6_year_6 1 (by decide) (List.mem_of_getElem? (i := 1) rfl) rfl 100 rfl ?_
      refine k_getN C dX6_year_100 10 rfl (ci := 5) rfl hin_X6_year_5 0 (by decide) (List.mem_of_getElem? (i := 1) rfl) rfl 103 rfl ?_
      have hM := c_X6_leftOver (l := l) (D := D) (cI := cI) (cJ := cJ) (cZ := cZ) ((((75 * x4) + 74).tmod 65537).tdiv 10) S_r.1 _ h
      refine k_callS C dX6_year_103 hM gX6_year_X6_leftOver rfl sg_X6_leftOver rfl (Nat.le_of_ble_eq_true rfl) ⟨⟨rfl, rfl⟩, by decide, by decide⟩ ⟨Nat.le_refl 0, Nat.le_refl 0⟩ [] [0, 1, 2, 3, 4, 5, 6, 7, 8, 9, 10, 11, 12, 13, 14, 15, 16, 17, 18] rfl rfl rfl rfl (by decide) 0 0 ⟨rfl, rfl⟩ 106 rfl (fun v w1 hq103 => ?_)
      obtain ⟨r103, rfl, rfl, h⟩ := hq103
      refine k_perm C [0, 1, 2, 3, 4, 5, 6, 7, 8, 9, 10, 11, 12, 13, 14, 15, 16, 17, 18] [.int (iI r103), .int (iI ((((75 * x4) + 74).tmod 65537).tmod 10)), .ref (qr 0)] ((wdX cI cJ cZ qh qn qr qs qp qi qj qw qo ) ++ (wdW cI cJ cZ qn S_n T_n U_n) ++ (wdW cI cJ cZ qr S_r T_r U_r)) rfl rfl rfl ?_
      have hM := c_X5_put (l := l) (D := D) (cI := cI) (cJ := cJ) (cZ := cZ) qr S_r T_r U_r ((((75 * x4) + 74).tmod 65537).tmod 10) r103 _ h
      refine k_callV C dX6_year_106 hM gX6_year_X5_put rfl sg_X5_put 5 rfl rfl rfl (Nat.le_of_ble_eq_true rfl) ⟨⟨rfl, rfl⟩, by decide, by decide⟩ ⟨Nat.le_refl 0, Nat.le_refl 0⟩ [10, 11, 12, 13, 14, 15, 16, 17, 18] [0, 1, 2, 3, 4, 5, 6, 7, 8, 9] rfl rfl rfl rfl (by decide) 0 0 ⟨rfl, rfl⟩ 109 rfl (fun v w1 hq106 => ?_)
      obtain ⟨r106, T_r_106, U_r_106, rfl, rfl, h⟩ := hq106
      refine k_perm C [0, 1, 2, 3, 4, 5, 6, 7, 8, 9, 10, 11, 12, 13, 14, 15, 16, 17, 18] [.int (iI r106)] ((wdX cI cJ cZ qh qn qr qs qp qi qj qw qo ) ++ (wdW cI cJ cZ qn S_n T_n U_n) ++ (wdW cI cJ cZ qr S_r T_r_106 U_r_106)) rfl rfl rfl ?_
      obtain ⟨hr109a, h⟩ := h
      obtain ⟨ht, hf⟩ := h
      refine k_if_ne C dX6_year_109 hr109a 118 112 (by decide) rfl (fun hc109 => ?_) (fun hc109 => ?_)
      · have h := ht hc109; clear ht hf
        refine k_aload_n C dX6_year_118 2 rfl rfl 119 rfl ?_
        refine k_get C dX6_year_119 0 rfl (ci := 6) rfl hin_X6_year_6 1 (by decide) (List.mem_of_getElem? (i := 1) rfl) rfl 122 rfl ?_
        refine k_iload C dX6_year_122 0 rfl 124 rfl ?_
        have hM := c_X5_take (l := l) (D := D) (cI := cI) (cJ := cJ) (cZ := cZ) qr S_r T_r_106 U_r_106 ((((75 * x4) + 74).tmod 65537).tmod 10) _ h
        refine k_callV C dX6_year_124 hM gX6_year_X5_take rfl sg_X5_take 5 rfl rfl rfl (Nat.le_of_ble_eq_true rfl) ⟨⟨rfl, rfl⟩, by decide, by decide⟩ ⟨Nat.le_refl 0, Nat.le_refl 0⟩ [10, 11, 12, 13, 14, 15, 16, 17, 18] [0, 1, 2, 3, 4, 5, 6, 7, 8, 9] rfl rfl rfl rfl (by decide) 0 0 ⟨rfl, rfl⟩ 127 rfl (fun v w1 hq124 => ?_)
        obtain ⟨r124, T_r_124, rfl, rfl, h⟩ := hq124
        refine k_perm C [0, 1, 2, 3, 4, 5, 6, 7, 8, 9, 10, 11, 12, 13, 14, 15, 16, 17, 18] [.int (iI r124)] ((wdX cI cJ cZ qh qn qr qs qp qi qj qw qo ) ++ (wdW cI cJ cZ qn S_n T_n U_n) ++ (wdW cI cJ cZ qr S_r T_r_124 U_r_106)) rfl rfl rfl ?_
        obtain ⟨hr127a, h⟩ := h
        obtain ⟨ht, hf⟩ := h
        refine k_if_ne C dX6_year_127 hr127a 133 130 (by decide) rfl (fun hc127 => ?_) (fun hc127 => ?_)
        · have h := ht hc127; clear ht hf
          refine k_lv C [2, 3, 4, 1, 5, 6, 7, 8] [(0, .ref (qh 0)), (2, .int (iI x2)), (3, .int (iI x3)), (4, .int (iI (((75 * x4) + 74).tmod 65537))), (5, .int (iI x5)), (6, .int (iI x6)), (7, .int (iI x7)), (8, .int (iI x8))] rfl ?_
          refine w_X6_year_133 C x2 x3 (((75 * x4) + 74).tmod 65537) x5 x6 x7 x8 S_r T_r_124 U_r_106 h (fun x2 x3 x4 x5 x6 x7 x8 S_r T_r U_r h => ?_)
          · exact ih x2 x3 x4 x5 x6 x7 x8 S_r T_r U_r h hK_153
        · have h := hf hc127; clear ht hf
          refine k_iinc (j := 6) C dX6_year_130 rfl (by decide) [(6, .int (iI (x6 + 1))), (9, .int (iI ((((75 * x4) + 74).tmod 65537).tmod 10))), (4, .int (iI (((75 * x4) + 74).tmod 65537))), (0, .ref (qh 0)), (2, .int (iI x2)), (3, .int (iI x3)), (5, .int (iI x5)), (7, .int (iI x7)), (8, .int (iI x8))] rfl 133 rfl ?_
          refine k_lv C [3, 4, 5, 2, 6, 0, 7, 8] [(0, .ref (qh 0)), (2, .int (iI x2)), (3, .int (iI x3)), (4, .int (iI (((75 * x4) + 74).tmod 65537))), (5, .int (iI x5)), (6, .int (iI (x6 + 1))), (7, .int (iI x7)), (8, .int (iI x8))] rfl ?_
          refine w_X6_year_133 C x2 x3 (((75 * x4) + 74).tmod 65537) x5 (x6 + 1) x7 x8 S_r T_r_124 U_r_106 h (fun x2 x3 x4 x5 x6 x7 x8 S_r T_r U_r h => ?_)
          · exact ih x2 x3 x4 x5 x6 x7 x8 S_r T_r U_r h hK_153
      · have h := hf hc109; clear ht hf
        refine k_iinc (j := 5) C dX6_year_112 rfl (by decide) [(5, .int (iI (x5 + 1))), (9, .int (iI ((((75 * x4) + 74).tmod 65537).tmod 10))), (4, .int (iI (((75 * x4) + 74).tmod 65537))), (0, .ref (qh 0)), (2, .int (iI x2)), (3, .int (iI x3)), (6, .int (iI x6)), (7, .int (iI x7)), (8, .int (iI x8))] rfl 115 rfl ?_
        refine k_goto C dX6_year_115 133 (by decide) ?_
        refine k_lv C [3, 4, 5, 2, 0, 6, 7, 8] [(0, .ref (qh 0)), (2, .int (iI x2)), (3, .int (iI x3)), (4, .int (iI (((75 * x4) + 74).tmod 65537))), (5, .int (iI (x5 + 1))), (6, .int (iI x6)), (7, .int (iI x7)), (8, .int (iI x8))] rfl ?_
        refine w_X6_year_133 C x2 x3 (((75 * x4) + 74).tmod 65537) (x5 + 1) x6 x7 x8 S_r T_r_106 U_r_106 h (fun x2 x3 x4 x5 x6 x7 x8 S_r T_r U_r h => ?_)
        · exact ih x2 x3 x4 x5 x6 x7 x8 S_r T_r U_r h hK_153
set_option maxHeartbeats 4000000 in
set_option maxRecDepth 20000 in
theorem c_X6_year {l : Launch} {D : va_G} {cI cJ cZ : ClassId} (qh : Nat → Nat) (qn : Nat → Nat) (qr : Nat → Nat) (qs : Nat → Nat) (qp : Nat → Nat) (qi : Nat → Nat) (qj : Nat → Nat) (qw : Nat → Nat) (qo : Nat → Nat) (S_n : gWS) (T_n : gWT) (U_n : gWU) (S_r : gWS) (T_r : gWT) (U_r : gWU) (x1 : Int) (x2 : Int) (x3 : Int) (Q : Int → gWS → gWT → gWU → Prop) (h : wp_X6_year S_n T_n S_r T_r U_r x1 x2 x3 Q) : KM l D (kT cI cJ cZ) 0 0 yX6_year wsX6_year rm_X6_year [.ref (qh 0), .int (iI x1), .int (iI x2), .int (iI x3)] ((wdX cI cJ cZ qh qn qr qs qp qi qj qw qo ) ++ (wdW cI cJ cZ qn S_n T_n U_n) ++ (wdW cI cJ cZ qr S_r T_r U_r)) (rp_X6_year cI cJ cZ qh qn qr qs qp qi qj qw qo S_n T_n U_n Q) := by
  refine KM_intro (lv := [(0, .ref (qh 0)), (1, .int (iI x1)), (2, .int (iI x2)), (3, .int (iI x3))]) false rfl (by decide) (Nat.le_of_ble_eq_true rfl) rfl (fun h => absurd h (by decide)) (fun v ws hq => by obtain ⟨r, S_r, T_r, U_r, rfl, rfl, _⟩ := hq; exact Or.inr (Or.inl ⟨rfl, _, rfl⟩)) (fun A K C => ?_)
  refine k_iload_n C dX6_year_0 1 rfl rfl 1 rfl ?_
  refine k_iconst C dX6_year_1 2 rfl ?_
  refine k_sipush C dX6_year_2 (by decide) 5 rfl ?_
  have hM := c_X6_isOutside (l := l) (D := D) (cI := cI) (cJ := cJ) (cZ := cZ) x1 0 9999 _ h
  refine k_callS C dX6_year_5 hM gX6_year_X6_isOutside rfl sg_X6_isOutside rfl (Nat.le_of_ble_eq_true rfl) ⟨⟨rfl, rfl⟩, by decide, by decide⟩ ⟨Nat.le_refl 0, Nat.le_refl 0⟩ [] [0, 1, 2, 3, 4, 5, 6, 7, 8, 9, 10, 11, 12, 13, 14, 15, 16, 17, 18] rfl rfl rfl rfl (by decide) 0 0 ⟨rfl, rfl⟩ 8 rfl (fun v w1 hq5 => ?_)
  obtain ⟨r5, rfl, rfl, hb5, h⟩ := hq5
  refine k_perm C [0, 1, 2, 3, 4, 5, 6, 7, 8, 9, 10, 11, 12, 13, 14, 15, 16, 17, 18] [.int (iI r5)] ((wdX cI cJ cZ qh qn qr qs qp qi qj qw qo ) ++ (wdW cI cJ cZ qn S_n T_n U_n) ++ (wdW cI cJ cZ qr S_r T_r U_r)) rfl rfl rfl ?_
  obtain ⟨ht, hf⟩ := h
  refine k_if_ne C dX6_year_8 (by rcases hb5 with rfl | rfl <;> decide) 30 11 (by decide) rfl (fun hc8 => ?_) (fun hc8 => ?_)
  · have h := ht hc8; clear ht hf
    refine k_bipush C dX6_year_30 (by decide) 32 rfl ?_
    exact k_iret C dX6_year_32 ⟨(-2), S_r, T_r, U_r, rfl, rfl, h⟩
  · have h := hf hc8; clear ht hf
    refine k_iload_n C dX6_year_11 2 rfl rfl 12 rfl ?_
    refine k_iconst C dX6_year_12 13 rfl ?_
    refine k_bipush C dX6_year_13 (by decide) 15 rfl ?_
    have hM := c_X6_isOutside (l := l) (D := D) (cI := cI) (cJ := cJ) (cZ := cZ) x2 1 99 _ h
    refine k_callS C dX6_year_15 hM gX6_year_X6_isOutside rfl sg_X6_isOutside rfl (Nat.le_of_ble_eq_true rfl) ⟨⟨rfl, rfl⟩, by decide, by decide⟩ ⟨Nat.le_refl 0, Nat.le_refl 0⟩ [] [0, 1, 2, 3, 4, 5, 6, 7, 8, 9, 10, 11, 12, 13, 14, 15, 16, 17, 18] rfl rfl rfl rfl (by decide) 0 0 ⟨rfl, rfl⟩ 18 rfl (fun v w1 hq15 => ?_)
    obtain ⟨r15, rfl, rfl, hb15, h⟩ := hq15
    refine k_perm C [0, 1, 2, 3, 4, 5, 6, 7, 8, 9, 10, 11, 12, 13, 14, 15, 16, 17, 18] [.int (iI r15)] ((wdX cI cJ cZ qh qn qr qs qp qi qj qw qo ) ++ (wdW cI cJ cZ qn S_n T_n U_n) ++ (wdW cI cJ cZ qr S_r T_r U_r)) rfl rfl rfl ?_
    obtain ⟨ht, hf⟩ := h
    refine k_if_ne C dX6_year_18 (by rcases hb15 with rfl | rfl <;> decide) 30 21 (by decide) rfl (fun hc18 => ?_) (fun hc18 => ?_)
    · have h := ht hc18; clear ht hf
      refine k_bipush C dX6_year_30 (by decide) 32 rfl ?_
      exact k_iret C dX6_year_32 ⟨(-2), S_r, T_r, U_r, rfl, rfl, h⟩
    · have h := hf hc18; clear ht hf
      refine k_iload_n C dX6_year_21 3 rfl rfl 22 rfl ?_
      refine k_iconst C dX6_year_22 23 rfl ?_
      refine k_iconst C dX6_year_23 24 rfl ?_
      have hM := c_X6_isOutside (l := l) (D := D) (cI := cI) (cJ := cJ) (cZ := cZ) x3 0 2 _ h
      refine k_callS C dX6_year_24 hM gX6_year_X6_isOutside rfl sg_X6_isOutside rfl (Nat.le_of_ble_eq_true rfl) ⟨⟨rfl, rfl⟩, by decide, by decide⟩ ⟨Nat.le_refl 0, Nat.le_refl 0⟩ [] [0, 1, 2, 3, 4, 5, 6, 7, 8, 9, 10, 11, 12, 13, 14, 15, 16, 17, 18] rfl rfl rfl rfl (by decide) 0 0 ⟨rfl, rfl⟩ 27 rfl (fun v w1 hq24 => ?_)
      obtain ⟨r24, rfl, rfl, hb24, h⟩ := hq24
      refine k_perm C [0, 1, 2, 3, 4, 5, 6, 7, 8, 9, 10, 11, 12, 13, 14, 15, 16, 17, 18] [.int (iI r24)] ((wdX cI cJ cZ qh qn qr qs qp qi qj qw qo ) ++ (wdW cI cJ cZ qn S_n T_n U_n) ++ (wdW cI cJ cZ qr S_r T_r U_r)) rfl rfl rfl ?_
      obtain ⟨ht, hf⟩ := h
      refine k_if_eq C dX6_year_27 (by rcases hb24 with rfl | rfl <;> decide) 33 30 (by decide) rfl (fun hc27 => ?_) (fun hc27 => ?_)
      · have h := ht hc27; clear ht hf
        refine k_aload_n C dX6_year_33 0 rfl rfl 34 rfl ?_
        refine k_get C dX6_year_34 0 rfl (ci := 6) rfl hin_X6_year_6 1 (by decide) (List.mem_of_getElem? (i := 1) rfl) rfl 37 rfl ?_
        refine k_aload_n C dX6_year_37 0 rfl rfl 38 rfl ?_
        refine k_get C dX6_year_38 0 rfl (ci := 6) rfl hin_X6_year_6 0 (by decide) (List.mem_of_getElem? (i := 2) rfl) rfl 41 rfl ?_
        have hM := c_X5_become (l := l) (D := D) (cI := cI) (cJ := cJ) (cZ := cZ) qr qn S_r T_r U_r S_n T_n U_n _ h
        refine k_callV C dX6_year_41 hM gX6_year_X5_become rfl sg_X5_become 5 rfl rfl rfl (Nat.le_of_ble_eq_true rfl) ⟨⟨rfl, rfl⟩, by decide, by decide⟩ ⟨Nat.le_refl 0, Nat.le_refl 0⟩ [10, 11, 12, 13, 14, 15, 16, 17, 18, 1, 2, 3, 4, 5, 6, 7, 8, 9] [0] rfl rfl rfl rfl (by decide) 0 0 ⟨rfl, rfl⟩ 44 rfl (fun v w1 hq41 => ?_)
        obtain ⟨S_r_41, T_r_41, rfl, rfl, h⟩ := hq41
        refine k_perm C [0, 10, 11, 12, 13, 14, 15, 16, 17, 18, 1, 2, 3, 4, 5, 6, 7, 8, 9] [] ((wdX cI cJ cZ qh qn qr qs qp qi qj qw qo ) ++ (wdW cI cJ cZ qn S_n T_n U_n) ++ (wdW cI cJ cZ qr S_r_41 T_r_41 U_r)) rfl rfl rfl ?_
        refine k_iload_n C dX6_year_44 1 rfl rfl 45 rfl ?_
        refine k_istore C dX6_year_45 (by decide) [(4, .int (iI x1)), (0, .ref (qh 0)), (1, .int (iI x1)), (2, .int (iI x2)), (3, .int (iI x3))] rfl 47 rfl ?_
        refine k_iconst C dX6_year_47 48 rfl ?_
        refine k_istore C dX6_year_48 (by decide) [(5, .int (iI 0)), (4, .int (iI x1)), (0, .ref (qh 0)), (1, .int (iI x1)), (2, .int (iI x2)), (3, .int (iI x3))] rfl 50 rfl ?_
        refine k_iconst C dX6_year_50 51 rfl ?_
        refine k_istore C dX6_year_51 (by decide) [(6, .int (iI 0)), (5, .int (iI 0)), (4, .int (iI x1)), (0, .ref (qh 0)), (1, .int (iI x1)), (2, .int (iI x2)), (3, .int (iI x3))] rfl 53 rfl ?_
        refine k_iconst C dX6_year_53 54 rfl ?_
        refine k_istore C dX6_year_54 (by decide) [(7, .int (iI 0)), (6, .int (iI 0)), (5, .int (iI 0)), (4, .int (iI x1)), (0, .ref (qh 0)), (1, .int (iI x1)), (2, .int (iI x2)), (3, .int (iI x3))] rfl 56 rfl ?_
        refine k_iconst C dX6_year_56 57 rfl ?_
        refine k_istore C dX6_year_57 (by decide) [(8, .int (iI 0)), (7, .int (iI 0)), (6, .int (iI 0)), (5, .int (iI 0)), (4, .int (iI x1)), (0, .ref (qh 0)), (1, .int (iI x1)), (2, .int (iI x2)), (3, .int (iI x3))] rfl 59 rfl ?_
        refine k_lv C [5, 7, 8, 4, 3, 2, 1, 0] [(0, .ref (qh 0)), (2, .int (iI x2)), (3, .int (iI x3)), (4, .int (iI x1)), (5, .int (iI 0)), (6, .int (iI 0)), (7, .int (iI 0)), (8, .int (iI 0))] rfl ?_
        obtain ⟨m59, h⟩ := h
        refine w_X6_year_59 C m59 x2 x3 x1 0 0 0 0 S_r_41 T_r_41 U_r h (fun x3 x5 x6 x7 S_r T_r U_r h => ?_)
        · refine k_iload_n C dX6_year_153 0 rfl rfl 154 rfl ?_
          obtain ⟨hr154a, h⟩ := h
          obtain ⟨ht, hf⟩ := h
          refine k_if_ne C dX6_year_154 hr154a 162 157 (by decide) rfl (fun hc154 => ?_) (fun hc154 => ?_)
          · have h := ht hc154; clear ht hf
            refine k_iload_n C dX6_year_162 0 rfl rfl 163 rfl ?_
            refine k_iconst C dX6_year_163 164 rfl ?_
            obtain ⟨ht, hf⟩ := h
            refine k_icmp_ne C dX6_year_164 ⟨hr154a, (by decide)⟩ 172 167 (by decide) rfl (fun hc164 => ?_) (fun hc164 => ?_)
            · have h := ht hc164; clear ht hf
              refine k_iload C dX6_year_172 3 rfl 174 rfl ?_
              exact k_iret C dX6_year_174 ⟨x7, S_r, T_r, U_r, rfl, rfl, h⟩
            · have h := hf hc164; clear ht hf
              refine k_iload C dX6_year_167 2 rfl 169 rfl ?_
              refine k_goto C dX6_year_169 174 (by decide) ?_
              exact k_iret C dX6_year_174 ⟨x6, S_r, T_r, U_r, rfl, rfl, h⟩
          · have h := hf hc154; clear ht hf
            refine k_iload C dX6_year_157 1 rfl 159 rfl ?_
            refine k_goto C dX6_year_159 174 (by decide) ?_
            exact k_iret C dX6_year_174 ⟨x5, S_r, T_r, U_r, rfl, rfl, h⟩
      · have h := hf hc27; clear ht hf
        refine k_bipush C dX6_year_30 (by decide) 32 rfl ?_
        exact k_iret C dX6_year_32 ⟨(-2), S_r, T_r, U_r, rfl, rfl, h⟩

/-! X6_toldOfStone -/
abbrev rm_X6_toldOfStone : Room := { frames := 2, cells := 0, slots := 0, locals := 42 }
theorem sg_X6_toldOfStone : yX6_toldOfStone.cls ≠ "java/lang/invoke/MethodHandle" ∧ yX6_toldOfStone.cls ≠ "java/lang/invoke/VarHandle" ∧ (parseMethodDescriptor yX6_toldOfStone.desc).map (fun d => d.parameters.length) = some 2 := by decide +kernel
theorem hin_X6_toldOfStone_5 : ∀ w ∈ wsX50, w ∈ wsX6_toldOfStone := fun _ h => List.mem_cons_of_mem _ (List.mem_append_right _ h)
theorem hin_X6_toldOfStone_6 : ∀ w ∈ wsX60, w ∈ wsX6_toldOfStone := fun _ h => List.mem_cons_of_mem _ (List.mem_append_left _ (List.mem_append_right _ h))
def rp_X6_toldOfStone (cI cJ cZ : ClassId) (qh : Nat → Nat) (qn : Nat → Nat) (qr : Nat → Nat) (qs : Nat → Nat) (qp : Nat → Nat) (qi : Nat → Nat) (qj : Nat → Nat) (qw : Nat → Nat) (qo : Nat → Nat) (S_n : gWS) (T_n : gWT) (U_n : gWU) (Q : Int → Prop) : Option Value → va_W → Prop := fun v w1 => ∃ (r : Int), v = some (.int (iI r)) ∧ w1 = (wdX cI cJ cZ qh qn qr qs qp qi qj qw qo ) ++ (wdW cI cJ cZ qn S_n T_n U_n) ∧ Q r
def wp_X6_toldOfStone (S_n : gWS) (x1 : Int) (x2 : Int) (Q : Int → Prop) : Prop :=
    wp_X5_isGiven S_n x1 (fun (r5 : Int) => ((¬ r5 = 0 → rI x2 ∧ ((x2 = 0 → wp_X6_at 10 S_n.2.2.1 x1 (fun (r48 : Int) => Q r48)) ∧ (x2 = 1 → wp_X6_at 10 S_n.2.2.2.1 x1 (fun (r60 : Int) => Q r60)) ∧ (x2 = 2 → wp_X6_at 10 S_n.2.2.2.2 x1 (fun (r72 : Int) => Q r72)) ∧ (¬ x2 = 0 ∧ ¬ x2 = 1 ∧ ¬ x2 = 2 → Q (-2)))) ∧ (¬ (¬ r5 = 0) → Q (-2))))

set_option maxHeartbeats 4000000 in
set_option maxRecDepth 20000 in
theorem c_X6_toldOfStone {l : Launch} {D : va_G} {cI cJ cZ : ClassId} (qh : Nat → Nat) (qn : Nat → Nat) (qr : Nat → Nat) (qs : Nat → Nat) (qp : Nat → Nat) (qi : Nat → Nat) (qj : Nat → Nat) (qw : Nat → Nat) (qo : Nat → Nat) (S_n : gWS) (T_n : gWT) (U_n : gWU) (x1 : Int) (x2 : Int) (Q : Int → Prop) (h : wp_X6_toldOfStone S_n x1 x2 Q) : KM l D (kT cI cJ cZ) 0 0 yX6_toldOfStone wsX6_toldOfStone rm_X6_toldOfStone [.ref (qh 0), .int (iI x1), .int (iI x2)] ((wdX cI cJ cZ qh qn qr qs qp qi qj qw qo ) ++ (wdW cI cJ cZ qn S_n T_n U_n)) (rp_X6_toldOfStone cI cJ cZ qh qn qr qs qp qi qj qw qo S_n T_n U_n Q) := by
  refine KM_intro (lv := [(0, .ref (qh 0)), (1, .int (iI x1)), (2, .int (iI x2))]) false rfl (by decide) (Nat.le_of_ble_eq_true rfl) rfl (fun h => absurd h (by decide)) (fun v ws hq => by obtain ⟨r, rfl, rfl, _⟩ := hq; exact Or.inr (Or.inl ⟨rfl, _, rfl⟩)) (fun A K C => ?_)
  refine k_aload_n C dX6_toldOfStone_0 0 rfl rfl 1 rfl ?_
  refine k_get C dX6_toldOfStone_1 0 rfl (ci := 6) rfl hin_X6_toldOfStone_6 0 (by decide) (List.mem_of_getElem? (i := 1) rfl) rfl 4 rfl ?_
  refine k_iload_n C dX6_toldOfStone_4 1 rfl rfl 5 rfl ?_
  have hM := c_X5_isGiven (l := l) (D := D) (cI := cI) (cJ := cJ) (cZ := cZ) qn S_n T_n U_n x1 _ h
  refine k_callV C dX6_toldOfStone_5 hM gX6_toldOfStone_X5_isGiven rfl sg_X5_isGiven 5 rfl rfl rfl (Nat.le_of_ble_eq_true rfl) ⟨⟨rfl, rfl⟩, by decide, by decide⟩ ⟨Nat.le_refl 0, Nat.le_refl 0⟩ [1, 2, 3, 4, 5, 6, 7, 8, 9] [0] rfl rfl rfl rfl (by decide) 0 0 ⟨rfl, rfl⟩ 8 rfl (fun v w1 hq5 => ?_)
  obtain ⟨r5, rfl, rfl, hb5, h⟩ := hq5
  refine k_perm C [0, 1, 2, 3, 4, 5, 6, 7, 8, 9] [.int (iI r5)] ((wdX cI cJ cZ qh qn qr qs qp qi qj qw qo ) ++ (wdW cI cJ cZ qn S_n T_n U_n)) rfl rfl rfl ?_
  obtain ⟨ht, hf⟩ := h
  refine k_if_ne C dX6_toldOfStone_8 (by rcases hb5 with rfl | rfl <;> decide) 14 11 (by decide) rfl (fun hc8 => ?_) (fun hc8 => ?_)
  · have h := ht hc8; clear ht hf
    refine k_iload_n C dX6_toldOfStone_14 2 rfl rfl 15 rfl ?_
    obtain ⟨hr15a, h⟩ := h
    obtain ⟨hs15_0, hs15_1, hs15_2, hs15_d⟩ := h
    by_cases e15_0 : x2 = 0
    · have h := hs15_0 e15_0; clear hs15_0 hs15_1 hs15_2 hs15_d
      refine k_tsIn C dX6_toldOfStone_15 e15_0 (by decide) (by decide) (by decide) rfl 40 (by decide) ?_
      refine k_aload_n C dX6_toldOfStone_40 0 rfl rfl 41 rfl ?_
      refine k_get C dX6_toldOfStone_41 0 rfl (ci := 6) rfl hin_X6_toldOfStone_6 0 (by decide) (List.mem_of_getElem? (i := 1) rfl) rfl 44 rfl ?_
      refine k_getN C dX6_toldOfStone_44 1 rfl (ci := 5) rfl hin_X6_toldOfStone_5 3 (by decide) (List.mem_of_getElem? (i := 4) rfl) rfl 47 rfl ?_
      refine k_iload_n C dX6_toldOfStone_47 1 rfl rfl 48 rfl ?_
      have hM := c_X6_at (l := l) (D := D) (cI := cI) (cJ := cJ) (cZ := cZ) (qn 1) 10 (by decide) S_n.2.2.1 x1 _ h
      refine k_callS C dX6_toldOfStone_48 hM gX6_toldOfStone_X6_at rfl sg_X6_at rfl (Nat.le_of_ble_eq_true rfl) ⟨⟨rfl, rfl⟩, by decide, by decide⟩ ⟨Nat.le_refl 0, Nat.le_refl 0⟩ [2] [0, 1, 3, 4, 5, 6, 7, 8, 9] rfl rfl rfl rfl (by decide) 0 0 ⟨rfl, rfl⟩ 51 rfl (fun v w1 hq48 => ?_)
      obtain ⟨r48, rfl, rfl, h⟩ := hq48
      refine k_perm C [0, 1, 9, 2, 3, 4, 5, 6, 7, 8] [.int (iI r48)] ((wdX cI cJ cZ qh qn qr qs qp qi qj qw qo ) ++ (wdW cI cJ cZ qn S_n T_n U_n)) rfl rfl rfl ?_
      exact k_iret C dX6_toldOfStone_51 ⟨r48, rfl, rfl, h⟩
    by_cases e15_1 : x2 = 1
    · have h := hs15_1 e15_1; clear hs15_0 hs15_1 hs15_2 hs15_d
      refine k_tsIn C dX6_toldOfStone_15 e15_1 (by decide) (by decide) (by decide) rfl 52 (by decide) ?_
      refine k_aload_n C dX6_toldOfStone_52 0 rfl rfl 53 rfl ?_
      refine k_get C dX6_toldOfStone_53 0 rfl (ci := 6) rfl hin_X6_toldOfStone_6 0 (by decide) (List.mem_of_getElem? (i := 1) rfl) rfl 56 rfl ?_
      refine k_getN C dX6_toldOfStone_56 1 rfl (ci := 5) rfl hin_X6_toldOfStone_5 4 (by decide) (List.mem_of_getElem? (i := 5) rfl) rfl 59 rfl ?_
      refine k_iload_n C dX6_toldOfStone_59 1 rfl rfl 60 rfl ?_
      have hM := c_X6_at (l := l) (D := D) (cI := cI) (cJ := cJ) (cZ := cZ) (qn 2) 10 (by decide) S_n.2.2.2.1 x1 _ h
      refine k_callS C dX6_toldOfStone_60 hM gX6_toldOfStone_X6_at rfl sg_X6_at rfl (Nat.le_of_ble_eq_true rfl) ⟨⟨rfl, rfl⟩, by decide, by decide⟩ ⟨Nat.le_refl 0, Nat.le_refl 0⟩ [3] [0, 1, 2, 4, 5, 6, 7, 8, 9] rfl rfl rfl rfl (by decide) 0 0 ⟨rfl, rfl⟩ 63 rfl (fun v w1 hq60 => ?_)
      obtain ⟨r60, rfl, rfl, h⟩ := hq60
      refine k_perm C [0, 1, 2, 9, 3, 4, 5, 6, 7, 8] [.int (iI r60)] ((wdX cI cJ cZ qh qn qr qs qp qi qj qw qo ) ++ (wdW cI cJ cZ qn S_n T_n U_n)) rfl rfl rfl ?_
      exact k_iret C dX6_toldOfStone_63 ⟨r60, rfl, rfl, h⟩
    by_cases e15_2 : x2 = 2
    · have h := hs15_2 e15_2; clear hs15_0 hs15_1 hs15_2 hs15_d
      refine k_tsIn C dX6_toldOfStone_15 e15_2 (by decide) (by decide) (by decide) rfl 64 (by decide) ?_
      refine k_aload_n C dX6_toldOfStone_64 0 rfl rfl 65 rfl ?_
      refine k_get C dX6_toldOfStone_65 0 rfl (ci := 6) rfl hin_X6_toldOfStone_6 0 (by decide) (List.mem_of_getElem? (i := 1) rfl) rfl 68 rfl ?_
      refine k_getN C dX6_toldOfStone_68 1 rfl (ci := 5) rfl hin_X6_toldOfStone_5 5 (by decide) (List.mem_of_getElem? (i := 6) rfl) rfl 71 rfl ?_
      refine k_iload_n C dX6_toldOfStone_71 1 rfl rfl 72 rfl ?_
      have hM := c_X6_at (l := l) (D := D) (cI := cI) (cJ := cJ) (cZ := cZ) (qn 3) 10 (by decide) S_n.2.2.2.2 x1 _ h
      refine k_callS C dX6_toldOfStone_72 hM gX6_toldOfStone_X6_at rfl sg_X6_at rfl (Nat.le_of_ble_eq_true rfl) ⟨⟨rfl, rfl⟩, by decide, by decide⟩ ⟨Nat.le_refl 0, Nat.le_refl 0⟩ [4] [0, 1, 2, 3, 5, 6, 7, 8, 9] rfl rfl rfl rfl (by decide) 0 0 ⟨rfl, rfl⟩ 75 rfl (fun v w1 hq72 => ?_)
      obtain ⟨r72, rfl, rfl, h⟩ := hq72
      refine k_perm C [0, 1, 2, 3, 9, 4, 5, 6, 7, 8] [.int (iI r72)] ((wdX cI cJ cZ qh qn qr qs qp qi qj qw qo ) ++ (wdW cI cJ cZ qn S_n T_n U_n)) rfl rfl rfl ?_
      exact k_iret C dX6_toldOfStone_75 ⟨r72, rfl, rfl, h⟩
    have h := hs15_d ⟨e15_0, e15_1, e15_2⟩; clear hs15_0 hs15_1 hs15_2 hs15_d
    refine k_tsOut C dX6_toldOfStone_15 hr15a (by omega) 76 (by decide) ?_
    refine k_bipush C dX6_toldOfStone_76 (by decide) 78 rfl ?_
    exact k_iret C dX6_toldOfStone_78 ⟨(-2), rfl, rfl, h⟩
  · have h := hf hc8; clear ht hf
    refine k_bipush C dX6_toldOfStone_11 (by decide) 13 rfl ?_
    exact k_iret C dX6_toldOfStone_13 ⟨(-2), rfl, rfl, h⟩

/-! X6_told -/
abbrev rm_X6_told : Room := { frames := 3, cells := 0, slots := 0, locals := 64 }
theorem sg_X6_told : yX6_told.cls ≠ "java/lang/invoke/MethodHandle" ∧ yX6_told.cls ≠ "java/lang/invoke/VarHandle" ∧ (parseMethodDescriptor yX6_told.desc).map (fun d => d.parameters.length) = some 1 := by decide +kernel
theorem hin_X6_told_2 : ∀ w ∈ wsX20, w ∈ wsX6_told := fun _ h => List.mem_cons_of_mem _ (List.mem_append_left _ (List.mem_append_left _ (List.mem_append_right _ h)))
theorem hin_X6_told_4 : ∀ w ∈ wsX40, w ∈ wsX6_told := fun _ h => List.mem_cons_of_mem _ (List.mem_append_right _ h)
theorem hin_X6_told_5 : ∀ w ∈ wsX50, w ∈ wsX6_told := fun _ h => List.mem_cons_of_mem _ (List.mem_append_left _ (List.mem_append_right _ h))
theorem hin_X6_told_6 : ∀ w ∈ wsX60, w ∈ wsX6_told := fun _ h => List.mem_cons_of_mem _ (List.mem_append_left _ (List.mem_append_left _ (List.mem_append_left _ (List.mem_append_right _ h))))
def rp_X6_told (cI cJ cZ : ClassId) (qh : Nat → Nat) (qn : Nat → Nat) (qr : Nat → Nat) (qs : Nat → Nat) (qp : Nat → Nat) (qi : Nat → Nat) (qj : Nat → Nat) (qw : Nat → Nat) (qo : Nat → Nat) (S_n : gWS) (T_n : gWT) (U_n : gWU) (G_s : gGG) (P_p : gPP) (Q : Int → Prop) : Option Value → va_W → Prop := fun v w1 => ∃ (r : Int), v = some (.int (iI r)) ∧ w1 = (wdX cI cJ cZ qh qn qr qs qp qi qj qw qo ) ++ (wdW cI cJ cZ qn S_n T_n U_n) ++ (wdG cI cJ cZ qs G_s) ++ (wdP cI cJ cZ qp P_p) ∧ Q r
def wp_X6_told (S_n : gWS) (T_n : gWT) (G_s : gGG) (P_p : gPP) (x1 : Int) (Q : Int → Prop) : Prop :=
    rI x1 ∧ ((x1 = 0 → Q P_p.1) ∧ (x1 = 1 → Q S_n.1) ∧ (x1 = 2 → Q S_n.2.1) ∧ (x1 = 3 → Q T_n.1) ∧ (x1 = 4 → Q G_s.1) ∧ (¬ x1 = 0 ∧ ¬ x1 = 1 ∧ ¬ x1 = 2 ∧ ¬ x1 = 3 ∧ ¬ x1 = 4 → wp_X6_toldOfStone S_n ((x1.tdiv 10) - 1) (x1.tmod 10) (fun (r87 : Int) => Q r87)))

set_option maxHeartbeats 4000000 in
set_option maxRecDepth 20000 in
theorem c_X6_told {l : Launch} {D : va_G} {cI cJ cZ : ClassId} (qh : Nat → Nat) (qn : Nat → Nat) (qr : Nat → Nat) (qs : Nat → Nat) (qp : Nat → Nat) (qi : Nat → Nat) (qj : Nat → Nat) (qw : Nat → Nat) (qo : Nat → Nat) (S_n : gWS) (T_n : gWT) (U_n : gWU) (G_s : gGG) (P_p : gPP) (x1 : Int) (Q : Int → Prop) (h : wp_X6_told S_n T_n G_s P_p x1 Q) : KM l D (kT cI cJ cZ) 0 0 yX6_told wsX6_told rm_X6_told [.ref (qh 0), .int (iI x1)] ((wdX cI cJ cZ qh qn qr qs qp qi qj qw qo ) ++ (wdW cI cJ cZ qn S_n T_n U_n) ++ (wdG cI cJ cZ qs G_s) ++ (wdP cI cJ cZ qp P_p)) (rp_X6_told cI cJ cZ qh qn qr qs qp qi qj qw qo S_n T_n U_n G_s P_p Q) := by
  refine KM_intro (lv := [(0, .ref (qh 0)), (1, .int (iI x1))]) false rfl (by decide) (Nat.le_of_ble_eq_true rfl) rfl (fun h => absurd h (by decide)) (fun v ws hq => by obtain ⟨r, rfl, rfl, _⟩ := hq; exact Or.inr (Or.inl ⟨rfl, _, rfl⟩)) (fun A K C => ?_)
  refine k_iload_n C dX6_told_0 1 rfl rfl 1 rfl ?_
  obtain ⟨hr1a, h⟩ := h
  obtain ⟨hs1_0, hs1_1, hs1_2, hs1_3, hs1_4, hs1_d⟩ := h
  by_cases e1_0 : x1 = 0
  · have h := hs1_0 e1_0; clear hs1_0 hs1_1 hs1_2 hs1_3 hs1_4 hs1_d
    refine k_tsIn C dX6_told_1 e1_0 (by decide) (by decide) (by decide) rfl 36 (by decide) ?_
    refine k_aload_n C dX6_told_36 0 rfl rfl 37 rfl ?_
    refine k_get C dX6_told_37 0 rfl (ci := 6) rfl hin_X6_told_6 3 (by decide) (List.mem_of_getElem? (i := 1) rfl) rfl 40 rfl ?_
    refine k_getN C dX6_told_40 13 rfl (ci := 2) rfl hin_X6_told_2 0 (by decide) (List.mem_of_getElem? (i := 15) rfl) rfl 43 rfl ?_
    exact k_iret C dX6_told_43 ⟨P_p.1, rfl, rfl, h⟩
  by_cases e1_1 : x1 = 1
  · have h := hs1_1 e1_1; clear hs1_0 hs1_1 hs1_2 hs1_3 hs1_4 hs1_d
    refine k_tsIn C dX6_told_1 e1_1 (by decide) (by decide) (by decide) rfl 44 (by decide) ?_
    refine k_aload_n C dX6_told_44 0 rfl rfl 45 rfl ?_
    refine k_get C dX6_told_45 0 rfl (ci := 6) rfl hin_X6_told_6 0 (by decide) (List.mem_of_getElem? (i := 2) rfl) rfl 48 rfl ?_
    refine k_getN C dX6_told_48 1 rfl (ci := 5) rfl hin_X6_told_5 0 (by decide) (List.mem_of_getElem? (i := 1) rfl) rfl 51 rfl ?_
    exact k_iret C dX6_told_51 ⟨S_n.1, rfl, rfl, h⟩
  by_cases e1_2 : x1 = 2
  · have h := hs1_2 e1_2; clear hs1_0 hs1_1 hs1_2 hs1_3 hs1_4 hs1_d
    refine k_tsIn C dX6_told_1 e1_2 (by decide) (by decide) (by decide) rfl 52 (by decide) ?_
    refine k_aload_n C dX6_told_52 0 rfl rfl 53 rfl ?_
    refine k_get C dX6_told_53 0 rfl (ci := 6) rfl hin_X6_told_6 0 (by decide) (List.mem_of_getElem? (i := 2) rfl) rfl 56 rfl ?_
    refine k_getN C dX6_told_56 1 rfl (ci := 5) rfl hin_X6_told_5 1 (by decide) (List.mem_of_getElem? (i := 2) rfl) rfl 59 rfl ?_
    exact k_iret C dX6_told_59 ⟨S_n.2.1, rfl, rfl, h⟩
  by_cases e1_3 : x1 = 3
  · have h := hs1_3 e1_3; clear hs1_0 hs1_1 hs1_2 hs1_3 hs1_4 hs1_d
    refine k_tsIn C dX6_told_1 e1_3 (by decide) (by decide) (by decide) rfl 60 (by decide) ?_
    refine k_aload_n C dX6_told_60 0 rfl rfl 61 rfl ?_
    refine k_get C dX6_told_61 0 rfl (ci := 6) rfl hin_X6_told_6 0 (by decide) (List.mem_of_getElem? (i := 2) rfl) rfl 64 rfl ?_
    refine k_getN C dX6_told_64 1 rfl (ci := 5) rfl hin_X6_told_5 2 (by decide) (List.mem_of_getElem? (i := 3) rfl) rfl 67 rfl ?_
    exact k_iret C dX6_told_67 ⟨T_n.1, rfl, rfl, h⟩
  by_cases e1_4 : x1 = 4
  · have h := hs1_4 e1_4; clear hs1_0 hs1_1 hs1_2 hs1_3 hs1_4 hs1_d
    refine k_tsIn C dX6_told_1 e1_4 (by decide) (by decide) (by decide) rfl 68 (by decide) ?_
    refine k_aload_n C dX6_told_68 0 rfl rfl 69 rfl ?_
    refine k_get C dX6_told_69 0 rfl (ci := 6) rfl hin_X6_told_6 2 (by decide) (List.mem_of_getElem? (i := 3) rfl) rfl 72 rfl ?_
    refine k_getN C dX6_told_72 10 rfl (ci := 4) rfl hin_X6_told_4 0 (by decide) (List.mem_of_getElem? (i := 13) rfl) rfl 75 rfl ?_
    exact k_iret C dX6_told_75 ⟨G_s.1, rfl, rfl, h⟩
  have h := hs1_d ⟨e1_0, e1_1, e1_2, e1_3, e1_4⟩; clear hs1_0 hs1_1 hs1_2 hs1_3 hs1_4 hs1_d
  refine k_tsOut C dX6_told_1 hr1a (by omega) 76 (by decide) ?_
  refine k_aload_n C dX6_told_76 0 rfl rfl 77 rfl ?_
  refine k_iload_n C dX6_told_77 1 rfl rfl 78 rfl ?_
  refine k_bipush C dX6_told_78 (by decide) 80 rfl ?_
  refine k_idiv C dX6_told_80 ⟨hr1a, (by decide), (by decide)⟩ 81 rfl ?_
  refine k_iconst C dX6_told_81 82 rfl ?_
  refine k_isub C dX6_told_82 83 rfl ?_
  refine k_iload_n C dX6_told_83 1 rfl rfl 84 rfl ?_
  refine k_bipush C dX6_told_84 (by decide) 86 rfl ?_
  refine k_irem C dX6_told_86 ⟨hr1a, (by decide), (by decide)⟩ 87 rfl ?_
  have hM := c_X6_toldOfStone (l := l) (D := D) (cI := cI) (cJ := cJ) (cZ := cZ) qh qn qr qs qp qi qj qw qo S_n T_n U_n ((x1.tdiv 10) - 1) (x1.tmod 10) _ h
  refine k_callV C dX6_told_87 hM gX6_told_X6_toldOfStone rfl sg_X6_toldOfStone 6 rfl rfl rfl (Nat.le_of_ble_eq_true rfl) ⟨⟨rfl, rfl⟩, by decide, by decide⟩ ⟨Nat.le_refl 0, Nat.le_refl 0⟩ [0, 1, 2, 3, 4, 5, 6, 7, 8, 9] [10, 11, 12, 13, 14] rfl rfl rfl rfl (by decide) 0 0 ⟨rfl, rfl⟩ 90 rfl (fun v w1 hq87 => ?_)
  obtain ⟨r87, rfl, rfl, h⟩ := hq87
  refine k_perm C [5, 6, 7, 8, 9, 10, 11, 12, 13, 14, 0, 1, 2, 3, 4] [.int (iI r87)] ((wdX cI cJ cZ qh qn qr qs qp qi qj qw qo ) ++ (wdW cI cJ cZ qn S_n T_n U_n) ++ (wdG cI cJ cZ qs G_s) ++ (wdP cI cJ cZ qp P_p)) rfl rfl rfl ?_
  exact k_iret C dX6_told_90 ⟨r87, rfl, rfl, h⟩
