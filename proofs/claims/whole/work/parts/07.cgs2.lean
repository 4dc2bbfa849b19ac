/-! X6_gaps -/
abbrev rm_X6_gaps : Room := { frames := 2, cells := 0, slots := 0, locals := 45 }
theorem sg_X6_gaps : yX6_gaps.cls ≠ "java/lang/invoke/MethodHandle" ∧ yX6_gaps.cls ≠ "java/lang/invoke/VarHandle" ∧ (parseMethodDescriptor yX6_gaps.desc).map (fun d => d.parameters.length) = some 1 := by decide +kernel
theorem hin_X6_gaps_5 : ∀ w ∈ wsX50, w ∈ wsX6_gaps := fun _ h => List.mem_cons_of_mem _ (List.mem_append_right _ h)
theorem hin_X6_gaps_6 : ∀ w ∈ wsX60, w ∈ wsX6_gaps := fun _ h => List.mem_cons_of_mem _ (List.mem_append_left _ (List.mem_append_right _ h))
def rp_X6_gaps (cI cJ cZ : ClassId) (qh : Nat → Nat) (qn : Nat → Nat) (qr : Nat → Nat) (qs : Nat → Nat) (qp : Nat → Nat) (qi : Nat → Nat) (qj : Nat → Nat) (qw : Nat → Nat) (qo : Nat → Nat) (S_n : gWS) (T_n : gWT) (U_n : gWU) (Q : Int → Prop) : Option Value → va_W → Prop := fun v w1 => ∃ (r : Int), v = some (.int (iI r)) ∧ w1 = (wdX cI cJ cZ qh qn qr qs qp qi qj qw qo ) ++ (wdW cI cJ cZ qn S_n T_n U_n) ∧ Q r
def wp_X6_gaps_45 (T_n : gWT) (K_28 : Int → Int → Int → Int → Prop)  (Q : Int → Prop) (x1 : Int) (x2 : Int) (x3 : Int) (x4 : Int) : Prop :=
    wp_X5_emptyCells T_n x4 (fun (r52 : Int) => K_28 x1 (x2 + r52) x3 (x4 + 1))
def wp_X6_gaps_28 (T_n : gWT) (K_63 : Int → Prop)  (Q : Int → Prop) : Nat → Int → Int → Int → Int → Prop
  | 0, _, _, _, _ => False
  | n28 + 1, x1, x2, x3, x4 =>
    rI x4 ∧ rI x3 ∧ ((x3 ≤ x4 → K_63 x2) ∧ (¬ (x3 ≤ x4) → rI x1 ∧ ((x1 = (-1) → wp_X6_gaps_45 T_n (fun (x1 : Int) (x2 : Int) (x3 : Int) (x4 : Int) => wp_X6_gaps_28 T_n K_63 Q n28 x1 x2 x3 x4) Q x1 x2 x3 x4) ∧ (¬ (x1 = (-1)) → ((¬ x1 = x4 → wp_X6_gaps_28 T_n K_63 Q n28 x1 x2 x3 (x4 + 1)) ∧ (¬ (¬ x1 = x4) → wp_X6_gaps_45 T_n (fun (x1 : Int) (x2 : Int) (x3 : Int) (x4 : Int) => wp_X6_gaps_28 T_n K_63 Q n28 x1 x2 x3 x4) Q x1 x2 x3 x4))))))
def wp_X6_gaps_15 (S_n : gWS) (T_n : gWT)  (Q : Int → Prop) (x1 : Int) : Prop :=
    ∃ m28, wp_X6_gaps_28 T_n (fun (x2 : Int) => Q x2) Q m28 x1 0 S_n.1 0
def wp_X6_gaps (S_n : gWS) (T_n : gWT) (x1 : Int) (Q : Int → Prop) : Prop :=
    rI x1 ∧ ((x1 = (-1) → wp_X6_gaps_15 S_n T_n Q x1) ∧ (¬ (x1 = (-1)) → wp_X6_isNoColumn S_n x1 (fun (r7 : Int) => ((r7 = 0 → wp_X6_gaps_15 S_n T_n Q x1) ∧ (¬ (r7 = 0) → Q (-1))))))
set_option maxHeartbeats 4000000 in
set_option maxRecDepth 20000 in
theorem w_X6_gaps_45 {l : Launch} {D : va_G} {cI cJ cZ : ClassId} {A : Nat → Prop} {K : KT} {qh : Nat → Nat} {qn : Nat → Nat} {qr : Nat → Nat} {qs : Nat → Nat} {qp : Nat → Nat} {qi : Nat → Nat} {qj : Nat → Nat} {qw : Nat → Nat} {qo : Nat → Nat} {S_n : gWS} {T_n : gWT} {U_n : gWU} {Q : Int → Prop} {K_28 : Int → Int → Int → Int → Prop} (C : KC cX6_gaps yX6_gaps.cls wsX6_gaps rm_X6_gaps 5 D (kT cI cJ cZ) A l false (rp_X6_gaps cI cJ cZ qh qn qr qs qp qi qj qw qo S_n T_n U_n Q) 0 0 K) : ∀ (x1 : Int) (x2 : Int) (x3 : Int) (x4 : Int), wp_X6_gaps_45 T_n K_28 Q x1 x2 x3 x4 → (∀ (x1 : Int) (x2 : Int) (x3 : Int) (x4 : Int), K_28 x1 x2 x3 x4 → K 0 0 28 [(0, .ref (qh 0)), (1, .int (iI x1)), (2, .int (iI x2)), (3, .int (iI x3)), (4, .int (iI x4))] [] ((wdX cI cJ cZ qh qn qr qs qp qi qj qw qo ) ++ (wdW cI cJ cZ qn S_n T_n U_n))) → K 0 0 45 [(0, .ref (qh 0)), (1, .int (iI x1)), (2, .int (iI x2)), (3, .int (iI x3)), (4, .int (iI x4))] [] ((wdX cI cJ cZ qh qn qr qs qp qi qj qw qo ) ++ (wdW cI cJ cZ qn S_n T_n U_n)) := by
  intro x1 x2 x3 x4 h hK_28
  refine k_iload_n C dX6_gaps_45 2 rfl rfl 46 rfl ?_
  refine k_aload_n C dX6_gaps_46 0 rfl rfl 47 rfl ?_
  refine k_get C dX6_gaps_47 0 rfl (ci := 6) rfl hin_X6_gaps_6 0 (by decide) (List.mem_of_getElem? (i := 1) rfl) rfl 50 rfl ?_
  refine k_iload C dX6_gaps_50 4 rfl 52 rfl ?_
  have hM := c_X5_emptyCells (l := l) (D := D) (cI := cI) (cJ := cJ) (cZ := cZ) qn S_n T_n U_n x4 _ h
  refine k_callV C dX6_gaps_52 hM gX6_gaps_X5_emptyCells rfl sg_X5_emptyCells 5 rfl rfl rfl (Nat.le_of_ble_eq_true rfl) ⟨⟨rfl, rfl⟩, by decide, by decide⟩ ⟨Nat.le_refl 0, Nat.le_refl 0⟩ [1, 2, 3, 4, 5, 6, 7, 8, 9] [0] rfl rfl rfl rfl (by decide) 0 0 ⟨rfl, rfl⟩ 55 rfl (fun v w1 hq52 => ?_)
  obtain ⟨r52, rfl, rfl, h⟩ := hq52
  refine k_perm C [0, 1, 2, 3, 4, 5, 6, 7, 8, 9] [.int (iI r52), .int (iI x2)] ((wdX cI cJ cZ qh qn qr qs qp qi qj qw qo ) ++ (wdW cI cJ cZ qn S_n T_n U_n)) rfl rfl rfl ?_
  refine k_iadd C dX6_gaps_55 56 rfl ?_
  refine k_istore_n C dX6_gaps_56 rfl (by decide) [(2, .int (iI (x2 + r52))), (0, .ref (qh 0)), (1, .int (iI x1)), (3, .int (iI x3)), (4, .int (iI x4))] rfl 57 rfl ?_
  refine k_iinc (j := 4) C dX6_gaps_57 rfl (by decide) [(4, .int (iI (x4 + 1))), (2, .int (iI (x2 + r52))), (0, .ref (qh 0)), (1, .int (iI x1)), (3, .int (iI x3))] rfl 60 rfl ?_
  refine k_goto C dX6_gaps_60 28 (by decide) ?_
  refine k_lv C [2, 3, 1, 4, 0] [(0, .ref (qh 0)), (1, .int (iI x1)), (2, .int (iI (x2 + r52))), (3, .int (iI x3)), (4, .int (iI (x4 + 1)))] rfl ?_
  exact hK_28 x1 (x2 + r52) x3 (x4 + 1) h
set_option maxHeartbeats 4000000 in
set_option maxRecDepth 20000 in
theorem w_X6_gaps_28 {l : Launch} {D : va_G} {cI cJ cZ : ClassId} {A : Nat → Prop} {K : KT} {qh : Nat → Nat} {qn : Nat → Nat} {qr : Nat → Nat} {qs : Nat → Nat} {qp : Nat → Nat} {qi : Nat → Nat} {qj : Nat → Nat} {qw : Nat → Nat} {qo : Nat → Nat} {S_n : gWS} {T_n : gWT} {U_n : gWU} {Q : Int → Prop} {K_63 : Int → Prop} (C : KC cX6_gaps yX6_gaps.cls wsX6_gaps rm_X6_gaps 5 D (kT cI cJ cZ) A l false (rp_X6_gaps cI cJ cZ qh qn qr qs qp qi qj qw qo S_n T_n U_n Q) 0 0 K) : ∀ (n : Nat) (x1 : Int) (x2 : Int) (x3 : Int) (x4 : Int), wp_X6_gaps_28 T_n K_63 Q n x1 x2 x3 x4 → (∀ (x2 : Int), K_63 x2 → K 0 0 63 [(2, .int (iI x2))] [] ((wdX cI cJ cZ qh qn qr qs qp qi qj qw qo ) ++ (wdW cI cJ cZ qn S_n T_n U_n))) → K 0 0 28 [(0, .ref (qh 0)), (1, .int (iI x1)), (2, .int (iI x2)), (3, .int (iI x3)), (4, .int (iI x4))] [] ((wdX cI cJ cZ qh qn qr qs qp qi qj qw qo ) ++ (wdW cI cJ cZ qn S_n T_n U_n)) := by
  intro n
  induction n with
  | zero => intro x1 x2 x3 x4 h; exact h.elim
  | succ n ih =>
    intro x1 x2 x3 x4 h hK_63
    refine k_iload C dX6_gaps_28 4 rfl 30 rfl ?_
    refine k_iload_n C dX6_gaps_30 3 rfl rfl 31 rfl ?_
    obtain ⟨hr31a, hr31b, h⟩ := h
    obtain ⟨ht, hf⟩ := h
    refine k_icmp_ge C dX6_gaps_31 ⟨hr31a, hr31b⟩ 63 34 (by decide) rfl (fun hc31 => ?_) (fun hc31 => ?_)
    · have h := ht hc31; clear ht hf
      refine k_lv C [2] [(2, .int (iI x2))] rfl ?_
      exact hK_63 x2 h
    · have h := hf hc31; clear ht hf
      refine k_iload_n C dX6_gaps_34 1 rfl rfl 35 rfl ?_
      refine k_iconst C dX6_gaps_35 36 rfl ?_
      obtain ⟨hr36a, h⟩ := h
      obtain ⟨ht, hf⟩ := h
      refine k_icmp_eq C dX6_gaps_36 ⟨hr36a, (by decide)⟩ 45 39 (by decide) rfl (fun hc36 => ?_) (fun hc36 => ?_)
      · have h := ht hc36; clear ht hf
        refine w_X6_gaps_45 C x1 x2 x3 x4 h (fun x1 x2 x3 x4 h => ?_)
        · exact ih x1 x2 x3 x4 h hK_63
      · have h := hf hc36; clear ht hf
        refine k_iload_n C dX6_gaps_39 1 rfl rfl 40 rfl ?_
        refine k_iload C dX6_gaps_40 4 rfl 42 rfl ?_
        obtain ⟨ht, hf⟩ := h
        refine k_icmp_ne C dX6_gaps_42 ⟨hr36a, hr31a⟩ 57 45 (by decide) rfl (fun hc42 => ?_) (fun hc42 => ?_)
        · have h := ht hc42; clear ht hf
          refine k_iinc (j := 4) C dX6_gaps_57 rfl (by decide) [(4, .int (iI (x4 + 1))), (0, .ref (qh 0)), (1, .int (iI x1)), (2, .int (iI x2)), (3, .int (iI x3))] rfl 60 rfl ?_
          refine k_goto C dX6_gaps_60 28 (by decide) ?_
          refine k_lv C [1, 2, 3, 4, 0] [(0, .ref (qh 0)), (1, .int (iI x1)), (2, .int (iI x2)), (3, .int (iI x3)), (4, .int (iI (x4 + 1)))] rfl ?_
          exact ih x1 x2 x3 (x4 + 1) h hK_63
        · have h := hf hc42; clear ht hf
          refine w_X6_gaps_45 C x1 x2 x3 x4 h (fun x1 x2 x3 x4 h => ?_)
          · exact ih x1 x2 x3 x4 h hK_63
set_option maxHeartbeats 4000000 in
set_option maxRecDepth 20000 in
theorem w_X6_gaps_15 {l : Launch} {D : va_G} {cI cJ cZ : ClassId} {A : Nat → Prop} {K : KT} {qh : Nat → Nat} {qn : Nat → Nat} {qr : Nat → Nat} {qs : Nat → Nat} {qp : Nat → Nat} {qi : Nat → Nat} {qj : Nat → Nat} {qw : Nat → Nat} {qo : Nat → Nat} {S_n : gWS} {T_n : gWT} {U_n : gWU} {Q : Int → Prop} (C : KC cX6_gaps yX6_gaps.cls wsX6_gaps rm_X6_gaps 5 D (kT cI cJ cZ) A l false (rp_X6_gaps cI cJ cZ qh qn qr qs qp qi qj qw qo S_n T_n U_n Q) 0 0 K) : ∀ (x1 : Int), wp_X6_gaps_15 S_n T_n Q x1 → K 0 0 15 [(0, .ref (qh 0)), (1, .int (iI x1))] [] ((wdX cI cJ cZ qh qn qr qs qp qi qj qw qo ) ++ (wdW cI cJ cZ qn S_n T_n U_n)) := by
  intro x1 h 
  refine k_iconst C dX6_gaps_15 16 rfl ?_
  refine k_istore_n C dX6_gaps_16 rfl (by decide) [(2, .int (iI 0)), (0, .ref (qh 0)), (1, .int (iI x1))] rfl 17 rfl ?_
  refine k_aload_n C dX6_gaps_17 1 rfl rfl 18 rfl ?_
  refine k_get C dX6_gaps_18 0 rfl (ci := 6) rfl hin_X6_gaps_6 0 (by decide) (List.mem_of_getElem? (i := 1) rfl) rfl 21 rfl ?_
  refine k_getN C dX6_gaps_21 1 rfl (ci := 5) rfl hin_X6_gaps_5 0 (by decide) (List.mem_of_getElem? (i := 1) rfl) rfl 24 rfl ?_
  refine k_istore_n C dX6_gaps_24 rfl (by decide) [(3, .int (iI S_n.1)), (2, .int (iI 0)), (0, .ref (qh 0)), (1, .int (iI x1))] rfl 25 rfl ?_
  refine k_iconst C dX6_gaps_25 26 rfl ?_
  refine k_istore C dX6_gaps_26 (by decide) [(4, .int (iI 0)), (3, .int (iI S_n.1)), (2, .int (iI 0)), (0, .ref (qh 0)), (1, .int (iI x1))] rfl 28 rfl ?_
  refine k_lv C [3, 4, 2, 1, 0] [(0, .ref (qh 0)), (1, .int (iI x1)), (2, .int (iI 0)), (3, .int (iI S_n.1)), (4, .int (iI 0))] rfl ?_
  obtain ⟨m28, h⟩ := h
  refine w_X6_gaps_28 C m28 x1 0 S_n.1 0 h (fun x2 h => ?_)
  · refine k_iload_n C dX6_gaps_63 0 rfl rfl 64 rfl ?_
    exact k_iret C dX6_gaps_64 ⟨x2, rfl, rfl, h⟩
set_option maxHeartbeats 4000000 in
set_option maxRecDepth 20000 in
theorem c_X6_gaps {l : Launch} {D : va_G} {cI cJ cZ : ClassId} (qh : Nat → Nat) (qn : Nat → Nat) (qr : Nat → Nat) (qs : Nat → Nat) (qp : Nat → Nat) (qi : Nat → Nat) (qj : Nat → Nat) (qw : Nat → Nat) (qo : Nat → Nat) (S_n : gWS) (T_n : gWT) (U_n : gWU) (x1 : Int) (Q : Int → Prop) (h : wp_X6_gaps S_n T_n x1 Q) : KM l D (kT cI cJ cZ) 0 0 yX6_gaps wsX6_gaps rm_X6_gaps [.ref (qh 0), .int (iI x1)] ((wdX cI cJ cZ qh qn qr qs qp qi qj qw qo ) ++ (wdW cI cJ cZ qn S_n T_n U_n)) (rp_X6_gaps cI cJ cZ qh qn qr qs qp qi qj qw qo S_n T_n U_n Q) := by
  refine KM_intro (lv := [(0, .ref (qh 0)), (1, .int (iI x1))]) false rfl (by decide) (Nat.le_of_ble_eq_true rfl) rfl (fun h => absurd h (by decide)) (fun v ws hq => by obtain ⟨r, rfl, rfl, _⟩ := hq; exact Or.inr (Or.inl ⟨rfl, _, rfl⟩)) (fun A K C => ?_)
  refine k_iload_n C dX6_gaps_0 1 rfl rfl 1 rfl ?_
  refine k_iconst C dX6_gaps_1 2 rfl ?_
  obtain ⟨hr2a, h⟩ := h
  obtain ⟨ht, hf⟩ := h
  refine k_icmp_eq C dX6_gaps_2 ⟨hr2a, (by decide)⟩ 15 5 (by decide) rfl (fun hc2 => ?_) (fun hc2 => ?_)
  · have h := ht hc2; clear ht hf
    refine w_X6_gaps_15 C x1 h
  · have h := hf hc2; clear ht hf
    refine k_aload_n C dX6_gaps_5 0 rfl rfl 6 rfl ?_
    refine k_iload_n C dX6_gaps_6 1 rfl rfl 7 rfl ?_
    have hM := c_X6_isNoColumn (l := l) (D := D) (cI := cI) (cJ := cJ) (cZ := cZ) qh qn qr qs qp qi qj qw qo S_n T_n U_n x1 _ h
    refine k_callV C dX6_gaps_7 hM gX6_gaps_X6_isNoColumn rfl sg_X6_isNoColumn 6 rfl rfl rfl (Nat.le_of_ble_eq_true rfl) ⟨⟨rfl, rfl⟩, by decide, by decide⟩ ⟨Nat.le_refl 0, Nat.le_refl 0⟩ [0, 1, 2, 3, 4, 5, 6, 7, 8, 9] [] rfl rfl rfl rfl (by decide) 0 0 ⟨rfl, rfl⟩ 10 rfl (fun v w1 hq7 => ?_)
    obtain ⟨r7, rfl, rfl, hb7, h⟩ := hq7
    refine k_perm C [0, 1, 2, 3, 4, 5, 6, 7, 8, 9] [.int (iI r7)] ((wdX cI cJ cZ qh qn qr qs qp qi qj qw qo ) ++ (wdW cI cJ cZ qn S_n T_n U_n)) rfl rfl rfl ?_
    obtain ⟨ht, hf⟩ := h
    refine k_if_eq C dX6_gaps_10 (by rcases hb7 with rfl | rfl <;> decide) 15 13 (by decide) rfl (fun hc10 => ?_) (fun hc10 => ?_)
    · have h := ht hc10; clear ht hf
      refine w_X6_gaps_15 C x1 h
    · have h := hf hc10; clear ht hf
      refine k_iconst C dX6_gaps_13 14 rfl ?_
      exact k_iret C dX6_gaps_14 ⟨(-1), rfl, rfl, h⟩

/-! X6_where -/
abbrev rm_X6_where : Room := { frames := 4, cells := 0, slots := 0, locals := 132 }
theorem sg_X6_where : yX6_where.cls ≠ "java/lang/invoke/MethodHandle" ∧ yX6_where.cls ≠ "java/lang/invoke/VarHandle" ∧ (parseMethodDescriptor yX6_where.desc).map (fun d => d.parameters.length) = some 1 := by decide +kernel
theorem hin_X6_where_5 : ∀ w ∈ wsX50, w ∈ wsX6_where := fun _ h => List.mem_cons_of_mem _ (List.mem_append_right _ h)
theorem hin_X6_where_6 : ∀ w ∈ wsX60, w ∈ wsX6_where := fun _ h => List.mem_cons_of_mem _ (List.mem_append_left _ (List.mem_append_right _ h))
def rp_X6_where (cI cJ cZ : ClassId) (qh : Nat → Nat) (qn : Nat → Nat) (qr : Nat → Nat) (qs : Nat → Nat) (qp : Nat → Nat) (qi : Nat → Nat) (qj : Nat → Nat) (qw : Nat → Nat) (qo : Nat → Nat) (S_n : gWS) (T_n : gWT) (U_n : gWU) (Q : Int → gWS → gWT → gWU → Prop) : Option Value → va_W → Prop := fun v w1 => ∃ (r : Int) (S_r : gWS) (T_r : gWT) (U_r : gWU), v = some (.int (iI r)) ∧ w1 = (wdX cI cJ cZ qh qn qr qs qp qi qj qw qo ) ++ (wdW cI cJ cZ qn S_n T_n U_n) ++ (wdW cI cJ cZ qr S_r T_r U_r) ∧ Q r S_r T_r U_r
def wp_X6_where_141 (K_54 : Int → Int → Int → Int → Int → Int → gWS → gWT → gWU → Prop)  (Q : Int → gWS → gWT → gWU → Prop) (x1 : Int) (x2 : Int) (x3 : Int) (x5 : Int) (x7 : Int) (x8 : Int) (S_r : gWS) (T_r : gWT) (U_r : gWU) : Prop :=
    wp_X5_lift S_r T_r x1 (fun (T_r_146 : gWT) => K_54 x1 x2 x3 x5 x7 (x8 + 1) S_r T_r_146 U_r)
def wp_X6_where_54 (K_155 : Int → gWS → gWT → gWU → Prop)  (Q : Int → gWS → gWT → gWU → Prop) : Nat → Int → Int → Int → Int → Int → Int → gWS → gWT → gWU → Prop
  | 0, _, _, _, _, _, _, _, _, _ => False
  | n54 + 1, x1, x2, x3, x5, x7, x8, S_r, T_r, U_r =>
    rI x8 ∧ rI x7 ∧ ((x7 ≤ x8 → K_155 x2 S_r T_r U_r) ∧ (¬ (x7 ≤ x8) → wp_X5_put S_r T_r U_r x1 x8 (fun (r68 : Int) (T_r_68 : gWT) (U_r_68 : gWU) => rI r68 ∧ ((¬ r68 = 0 → wp_X6_where_54 K_155 Q n54 x1 x2 x3 x5 x7 (x8 + 1) S_r T_r_68 U_r_68) ∧ (¬ (¬ r68 = 0) → wp_X5_weigh S_r T_r_68 U_r_68 (fun (U_r_78 : gWU) => wp_X5_mostStrained S_r T_r_68 U_r_78 (fun (r85 : Int) => wp_X5_strainUpper U_r_78 r85 (fun (r96 : Int) => wp_X5_strainLower S_r r85 (fun (r107 : Int) => rI x2 ∧ ((x2 = (-6) → wp_X6_where_141 (fun (x1 : Int) (x2 : Int) (x3 : Int) (x5 : Int) (x7 : Int) (x8 : Int) (S_r : gWS) (T_r : gWT) (U_r : gWU) => wp_X6_where_54 K_155 Q n54 x1 x2 x3 x5 x7 x8 S_r T_r U_r) Q x1 x8 r96 r107 x7 x8 S_r T_r_68 U_r_78) ∧ (¬ (x2 = (-6)) → rL (r96 * x5) ∧ rL (x3 * r107) ∧ (((x3 * r107) ≤ (r96 * x5) → wp_X6_where_141 (fun (x1 : Int) (x2 : Int) (x3 : Int) (x5 : Int) (x7 : Int) (x8 : Int) (S_r : gWS) (T_r : gWT) (U_r : gWU) => wp_X6_where_54 K_155 Q n54 x1 x2 x3 x5 x7 x8 S_r T_r U_r) Q x1 x2 x3 x5 x7 x8 S_r T_r_68 U_r_78) ∧ (¬ ((x3 * r107) ≤ (r96 * x5)) → wp_X6_where_141 (fun (x1 : Int) (x2 : Int) (x3 : Int) (x5 : Int) (x7 : Int) (x8 : Int) (S_r : gWS) (T_r : gWT) (U_r : gWU) => wp_X6_where_54 K_155 Q n54 x1 x2 x3 x5 x7 x8 S_r T_r U_r) Q x1 x8 r96 r107 x7 x8 S_r T_r_68 U_r_78)))))))))))))
def wp_X6_where (S_n : gWS) (T_n : gWT) (S_r : gWS) (T_r : gWT) (U_r : gWU) (x1 : Int) (Q : Int → gWS → gWT → gWU → Prop) : Prop :=
    wp_X6_isNoGuest x1 (fun (r1 : Int) => ((r1 = 0 → wp_X5_isFree S_n T_n x1 (fun (r14 : Int) => ((¬ r14 = 0 → wp_X5_become S_r T_r S_n T_n (fun (S_r_31 : gWS) (T_r_31 : gWT) => ∃ m54, wp_X6_where_54 (fun (x2 : Int) (S_r : gWS) (T_r : gWT) (U_r : gWU) => Q x2 S_r T_r U_r) Q m54 x1 (-6) 0 1 S_r_31.1 0 S_r_31 T_r_31 U_r)) ∧ (¬ (¬ r14 = 0) → Q (-3) S_r T_r U_r)))) ∧ (¬ (r1 = 0) → Q (-1) S_r T_r U_r)))
set_option maxHeartbeats 4000000 in
set_option maxRecDepth 20000 in
theorem w_X6_where_141 {l : Launch} {D : va_G} {cI cJ cZ : ClassId} {A : Nat → Prop} {K : KT} {qh : Nat → Nat} {qn : Nat → Nat} {qr : Nat → Nat} {qs : Nat → Nat} {qp : Nat → Nat} {qi : Nat → Nat} {qj : Nat → Nat} {qw : Nat → Nat} {qo : Nat → Nat} {S_n : gWS} {T_n : gWT} {U_n : gWU} {Q : Int → gWS → gWT → gWU → Prop} {K_54 : Int → Int → Int → Int → Int → Int → gWS → gWT → gWU → Prop} (C : KC cX6_where yX6_where.cls wsX6_where rm_X6_where 14 D (kT cI cJ cZ) A l false (rp_X6_where cI cJ cZ qh qn qr qs qp qi qj qw qo S_n T_n U_n Q) 0 0 K) : ∀ (x1 : Int) (x2 : Int) (x3 : Int) (x5 : Int) (x7 : Int) (x8 : Int) (S_r : gWS) (T_r : gWT) (U_r : gWU), wp_X6_where_141 K_54 Q x1 x2 x3 x5 x7 x8 S_r T_r U_r → (∀ (x1 : Int) (x2 : Int) (x3 : Int) (x5 : Int) (x7 : Int) (x8 : Int) (S_r : gWS) (T_r : gWT) (U_r : gWU), K_54 x1 x2 x3 x5 x7 x8 S_r T_r U_r → K 0 0 54 [(0, .ref (qh 0)), (1, .int (iI x1)), (2, .int (iI x2)), (3, .long (lL x3)), (5, .long (lL x5)), (7, .int (iI x7)), (8, .int (iI x8))] [] ((wdX cI cJ cZ qh qn qr qs qp qi qj qw qo ) ++ (wdW cI cJ cZ qn S_n T_n U_n) ++ (wdW cI cJ cZ qr S_r T_r U_r))) → K 0 0 141 [(0, .ref (qh 0)), (1, .int (iI x1)), (2, .int (iI x2)), (3, .long (lL x3)), (5, .long (lL x5)), (7, .int (iI x7)), (8, .int (iI x8))] [] ((wdX cI cJ cZ qh qn qr qs qp qi qj qw qo ) ++ (wdW cI cJ cZ qn S_n T_n U_n) ++ (wdW cI cJ cZ qr S_r T_r U_r)) := by
  intro x1 x2 x3 x5 x7 x8 S_r T_r U_r h hK_54
  refine k_aload_n C dX6_where_141 0 rfl rfl 142 rfl ?_
  refine k_get C dX6_where_142 0 rfl (ci := 6) rfl hin_X6_where_6 1 (by decide) (List.mem_of_getElem? (i := 2) rfl) rfl 145 rfl ?_
  refine k_iload_n C dX6_where_145 1 rfl rfl 146 rfl ?_
  have hM := c_X5_lift (l := l) (D := D) (cI := cI) (cJ := cJ) (cZ := cZ) qr S_r T_r U_r x1 _ h
  refine k_callV C dX6_where_146 hM gX6_where_X5_lift rfl sg_X5_lift 5 rfl rfl rfl (Nat.le_of_ble_eq_true rfl) ⟨⟨rfl, rfl⟩, by decide, by decide⟩ ⟨Nat.le_refl 0, Nat.le_refl 0⟩ [10, 11, 12, 13, 14, 15, 16, 17, 18] [0, 1, 2, 3, 4, 5, 6, 7, 8, 9] rfl rfl rfl rfl (by decide) 0 0 ⟨rfl, rfl⟩ 149 rfl (fun v w1 hq146 => ?_)
  obtain ⟨T_r_146, rfl, rfl, h⟩ := hq146
  refine k_perm C [0, 1, 2, 3, 4, 5, 6, 7, 8, 9, 10, 11, 12, 13, 14, 15, 16, 17, 18] [] ((wdX cI cJ cZ qh qn qr qs qp qi qj qw qo ) ++ (wdW cI cJ cZ qn S_n T_n U_n) ++ (wdW cI cJ cZ qr S_r T_r_146 U_r)) rfl rfl rfl ?_
  refine k_iinc (j := 6) C dX6_where_149 rfl (by decide) [(8, .int (iI (x8 + 1))), (0, .ref (qh 0)), (1, .int (iI x1)), (2, .int (iI x2)), (3, .long (lL x3)), (5, .long (lL x5)), (7, .int (iI x7))] rfl 152 rfl ?_
  refine k_goto C dX6_where_152 54 (by decide) ?_
  refine k_lv C [1, 2, 3, 4, 5, 6, 0] [(0, .ref (qh 0)), (1, .int (iI x1)), (2, .int (iI x2)), (3, .long (lL x3)), (5, .long (lL x5)), (7, .int (iI x7)), (8, .int (iI (x8 + 1)))] rfl ?_
  exact hK_54 x1 x2 x3 x5 x7 (x8 + 1) S_r T_r_146 U_r h
set_option maxHeartbeats 4000000 in
set_option maxRecDepth 20000 in
theorem w_X6_where_54 {l : Launch} {D : va_G} {cI cJ cZ : ClassId} {A : Nat → Prop} {K : KT} {qh : Nat → Nat} {qn : Nat → Nat} {qr : Nat → Nat} {qs : Nat → Nat} {qp : Nat → Nat} {qi : Nat → Nat} {qj : Nat → Nat} {qw : Nat → Nat} {qo : Nat → Nat} {S_n : gWS} {T_n : gWT} {U_n : gWU} {Q : Int → gWS → gWT → gWU → Prop} {K_155 : Int → gWS → gWT → gWU → Prop} (C : KC cX6_where yX6_where.cls wsX6_where rm_X6_where 14 D (kT cI cJ cZ) A l false (rp_X6_where cI cJ cZ qh qn qr qs qp qi qj qw qo S_n T_n U_n Q) 0 0 K) : ∀ (n : Nat) (x1 : Int) (x2 : Int) (x3 : Int) (x5 : Int) (x7 : Int) (x8 : Int) (S_r : gWS) (T_r : gWT) (U_r : gWU), wp_X6_where_54 K_155 Q n x1 x2 x3 x5 x7 x8 S_r T_r U_r → (∀ (x2 : Int) (S_r : gWS) (T_r : gWT) (U_r : gWU), K_155 x2 S_r T_r U_r → K 0 0 155 [(2, .int (iI x2))] [] ((wdX cI cJ cZ qh qn qr qs qp qi qj qw qo ) ++ (wdW cI cJ cZ qn S_n T_n U_n) ++ (wdW cI cJ cZ qr S_r T_r U_r))) → K 0 0 54 [(0, .ref (qh 0)), (1, .int (iI x1)), (2, .int (iI x2)), (3, .long (lL x3)), (5, .long (lL x5)), (7, .int (iI x7)), (8, .int (iI x8))] [] ((wdX cI cJ cZ qh qn qr qs qp qi qj qw qo ) ++ (wdW cI cJ cZ qn S_n T_n U_n) ++ (wdW cI cJ cZ qr S_r T_r U_r)) := by
  intro n
  induction n with
  | zero => intro x1 x2 x3 x5 x7 x8 S_r T_r U_r h; exact h.elim
  | succ n ih =>
    intro x1 x2 x3 x5 x7 x8 S_r T_r U_r h hK_155
    refine k_iload C dX6_where_54 6 rfl 56 rfl ?_
    refine k_iload C dX6_where_56 5 rfl 58 rfl ?_
    obtain ⟨hr58a, hr58b, h⟩ := h
    obtain ⟨ht, hf⟩ := h
    refine k_icmp_ge C dX6_where_58 ⟨hr58a, hr58b⟩ 155 61 (by decide) rfl (fun hc58 => ?_) (fun hc58 => ?_)
    · have h := ht hc58; clear ht hf
      refine k_lv C [2] [(2, .int (iI x2))] rfl ?_
      exact hK_155 x2 S_r T_r U_r h
    · have h := hf hc58; clear ht hf
      refine k_aload_n C dX6_where_61 0 rfl rfl 62 rfl ?_
      refine k_get C dX6_where_62 0 rfl (ci := 6) rfl hin_X6_where_6 1 (by decide) (List.mem_of_getElem? (i := 2) rfl) rfl 65 rfl ?_
      refine k_iload_n C dX6_where_65 1 rfl rfl 66 rfl ?_
      refine k_iload C dX6_where_66 6 rfl 68 rfl ?_
      have hM := c_X5_put (l := l) (D := D) (cI := cI) (cJ := cJ) (cZ := cZ) qr S_r T_r U_r x1 x8 _ h
      refine k_callV C dX6_where_68 hM gX6_where_X5_put rfl sg_X5_put 5 rfl rfl rfl (Nat.le_of_ble_eq_true rfl) ⟨⟨rfl, rfl⟩, by decide, by decide⟩ ⟨Nat.le_refl 0, Nat.le_refl 0⟩ [10, 11, 12, 13, 14, 15, 16, 17, 18] [0, 1, 2, 3, 4, 5, 6, 7, 8, 9] rfl rfl rfl rfl (by decide) 0 0 ⟨rfl, rfl⟩ 71 rfl (fun v w1 hq68 => ?_)
      obtain ⟨r68, T_r_68, U_r_68, rfl, rfl, h⟩ := hq68
      refine k_perm C [0, 1, 2, 3, 4, 5, 6, 7, 8, 9, 10, 11, 12, 13, 14, 15, 16, 17, 18] [.int (iI r68)] ((wdX cI cJ cZ qh qn qr qs qp qi qj qw qo ) ++ (wdW cI cJ cZ qn S_n T_n U_n) ++ (wdW cI cJ cZ qr S_r T_r_68 U_r_68)) rfl rfl rfl ?_
      obtain ⟨hr71a, h⟩ := h
      obtain ⟨ht, hf⟩ := h
      refine k_if_ne C dX6_where_71 hr71a 149 74 (by decide) rfl (fun hc71 => ?_) (fun hc71 => ?_)
      · have h := ht hc71; clear ht hf
        refine k_iinc (j := 6) C dX6_where_149 rfl (by decide) [(8, .int (iI (x8 + 1))), (0, .ref (qh 0)), (1, .int (iI x1)), (2, .int (iI x2)), (3, .long (lL x3)), (5, .long (lL x5)), (7, .int (iI x7))] rfl 152 rfl ?_
        refine k_goto C dX6_where_152 54 (by decide) ?_
        refine k_lv C [1, 2, 3, 4, 5, 6, 0] [(0, .ref (qh 0)), (1, .int (iI x1)), (2, .int (iI x2)), (3, .long (lL x3)), (5, .long (lL x5)), (7, .int (iI x7)), (8, .int (iI (x8 + 1)))] rfl ?_
        exact ih x1 x2 x3 x5 x7 (x8 + 1) S_r T_r_68 U_r_68 h hK_155
      · have h := hf hc71; clear ht hf
        refine k_aload_n C dX6_where_74 0 rfl rfl 75 rfl ?_
        refine k_get C dX6_where_75 0 rfl (ci := 6) rfl hin_X6_where_6 1 (by decide) (List.mem_of_getElem? (i := 2) rfl) rfl 78 rfl ?_
        have hM := c_X5_weigh (l := l) (D := D) (cI := cI) (cJ := cJ) (cZ := cZ) qr S_r T_r_68 U_r_68 _ h
        refine k_callV C dX6_where_78 hM gX6_where_X5_weigh rfl sg_X5_weigh 5 rfl rfl rfl (Nat.le_of_ble_eq_true rfl) ⟨⟨rfl, rfl⟩, by decide, by decide⟩ ⟨Nat.le_refl 0, Nat.le_refl 0⟩ [10, 11, 12, 13, 14, 15, 16, 17, 18] [0, 1, 2, 3, 4, 5, 6, 7, 8, 9] rfl rfl rfl rfl (by decide) 0 0 ⟨rfl, rfl⟩ 81 rfl (fun v w1 hq78 => ?_)
        obtain ⟨U_r_78, rfl, rfl, h⟩ := hq78
        refine k_perm C [0, 1, 2, 3, 4, 5, 6, 7, 8, 9, 10, 11, 12, 13, 14, 15, 16, 17, 18] [] ((wdX cI cJ cZ qh qn qr qs qp qi qj qw qo ) ++ (wdW cI cJ cZ qn S_n T_n U_n) ++ (wdW cI cJ cZ qr S_r T_r_68 U_r_78)) rfl rfl rfl ?_
        refine k_aload_n C dX6_where_81 0 rfl rfl 82 rfl ?_
        refine k_get C dX6_where_82 0 rfl (ci := 6) rfl hin_X6_where_6 1 (by decide) (List.mem_of_getElem? (i := 2) rfl) rfl 85 rfl ?_
        have hM := c_X5_mostStrained (l := l) (D := D) (cI := cI) (cJ := cJ) (cZ := cZ) qr S_r T_r_68 U_r_78 _ h
        refine k_callV C dX6_where_85 hM gX6_where_X5_mostStrained rfl sg_X5_mostStrained 5 rfl rfl rfl (Nat.le_of_ble_eq_true rfl) ⟨⟨rfl, rfl⟩, by decide, by decide⟩ ⟨Nat.le_refl 0, Nat.le_refl 0⟩ [10, 11, 12, 13, 14, 15, 16, 17, 18] [0, 1, 2, 3, 4, 5, 6, 7, 8, 9] rfl rfl rfl rfl (by decide) 0 0 ⟨rfl, rfl⟩ 88 rfl (fun v w1 hq85 => ?_)
        obtain ⟨r85, rfl, rfl, h⟩ := hq85
        refine k_perm C [0, 1, 2, 3, 4, 5, 6, 7, 8, 9, 10, 11, 12, 13, 14, 15, 16, 17, 18] [.int (iI r85)] ((wdX cI cJ cZ qh qn qr qs qp qi qj qw qo ) ++ (wdW cI cJ cZ qn S_n T_n U_n) ++ (wdW cI cJ cZ qr S_r T_r_68 U_r_78)) rfl rfl rfl ?_
        refine k_istore C dX6_where_88 (by decide) [(9, .int (iI r85)), (0, .ref (qh 0)), (1, .int (iI x1)), (2, .int (iI x2)), (3, .long (lL x3)), (5, .long (lL x5)), (7, .int (iI x7)), (8, .int (iI x8))] rfl 90 rfl ?_
        refine k_aload_n C dX6_where_90 1 rfl rfl 91 rfl ?_
        refine k_get C dX6_where_91 0 rfl (ci := 6) rfl hin_X6_where_6 1 (by decide) (List.mem_of_getElem? (i := 2) rfl) rfl 94 rfl ?_
        refine k_iload C dX6_where_94 0 rfl 96 rfl ?_
        have hM := c_X5_strainUpper (l := l) (D := D) (cI := cI) (cJ := cJ) (cZ := cZ) qr S_r T_r_68 U_r_78 r85 _ h
        refine k_callV C dX6_where_96 hM gX6_where_X5_strainUpper rfl sg_X5_strainUpper 5 rfl rfl rfl (Nat.le_of_ble_eq_true rfl) ⟨⟨rfl, rfl⟩, by decide, by decide⟩ ⟨Nat.le_refl 0, Nat.le_refl 0⟩ [10, 11, 12, 13, 14, 15, 16, 17, 18] [0, 1, 2, 3, 4, 5, 6, 7, 8, 9] rfl rfl rfl rfl (by decide) 0 0 ⟨rfl, rfl⟩ 99 rfl (fun v w1 hq96 => ?_)
        obtain ⟨r96, rfl, rfl, h⟩ := hq96
        refine k_perm C [0, 1, 2, 3, 4, 5, 6, 7, 8, 9, 10, 11, 12, 13, 14, 15, 16, 17, 18] [.long (lL r96)] ((wdX cI cJ cZ qh qn qr qs qp qi qj qw qo ) ++ (wdW cI cJ cZ qn S_n T_n U_n) ++ (wdW cI cJ cZ qr S_r T_r_68 U_r_78)) rfl rfl rfl ?_
        refine k_lstore C dX6_where_99 (by decide) [(10, .long (lL r96)), (9, .int (iI r85)), (0, .ref (qh 0)), (1, .int (iI x1)), (2, .int (iI x2)), (3, .long (lL x3)), (5, .long (lL x5)), (7, .int (iI x7)), (8, .int (iI x8))] rfl 101 rfl ?_
        refine k_aload_n C dX6_where_101 2 rfl rfl 102 rfl ?_
        refine k_get C dX6_where_102 0 rfl (ci := 6) rfl hin_X6_where_6 1 (by decide) (List.mem_of_getElem? (i := 2) rfl) rfl 105 rfl ?_
        refine k_iload C dX6_where_105 1 rfl 107 rfl ?_
        have hM := c_X5_strainLower (l := l) (D := D) (cI := cI) (cJ := cJ) (cZ := cZ) qr S_r T_r_68 U_r_78 r85 _ h
        refine k_callV C dX6_where_107 hM gX6_where_X5_strainLower rfl sg_X5_strainLower 5 rfl rfl rfl (Nat.le_of_ble_eq_true rfl) ⟨⟨rfl, rfl⟩, by decide, by decide⟩ ⟨Nat.le_refl 0, Nat.le_refl 0⟩ [10, 11, 12, 13, 14, 15, 16, 17, 18] [0, 1, 2, 3, 4, 5, 6, 7, 8, 9] rfl rfl rfl rfl (by decide) 0 0 ⟨rfl, rfl⟩ 110 rfl (fun v w1 hq107 => ?_)
        obtain ⟨r107, rfl, rfl, h⟩ := hq107
        refine k_perm C [0, 1, 2, 3, 4, 5, 6, 7, 8, 9, 10, 11, 12, 13, 14, 15, 16, 17, 18] [.long (lL r107)] ((wdX cI cJ cZ qh qn qr qs qp qi qj qw qo ) ++ (wdW cI cJ cZ qn S_n T_n U_n) ++ (wdW cI cJ cZ qr S_r T_r_68 U_r_78)) rfl rfl rfl ?_
        refine k_lstore C dX6_where_110 (by decide) [(12, .long (lL r107)), (10, .long (lL r96)), (9, .int (iI r85)), (0, .ref (qh 0)), (1, .int (iI x1)), (2, .int (iI x2)), (3, .long (lL x3)), (5, .long (lL x5)), (7, .int (iI x7)), (8, .int (iI x8))] rfl 112 rfl ?_
        refine k_iload_n C dX6_where_112 5 rfl rfl 113 rfl ?_
        refine k_bipush C dX6_where_113 (by decide) 115 rfl ?_
        obtain ⟨hr115a, h⟩ := h
        obtain ⟨ht, hf⟩ := h
        refine k_icmp_eq C dX6_where_115 ⟨hr115a, (by decide)⟩ 131 118 (by decide) rfl (fun hc115 => ?_) (fun hc115 => ?_)
        · have h := ht hc115; clear ht hf
          refine k_iload C dX6_where_131 9 rfl 133 rfl ?_
          refine k_istore_n C dX6_where_133 rfl (by decide) [(2, .int (iI x8)), (12, .long (lL r107)), (10, .long (lL r96)), (9, .int (iI r85)), (0, .ref (qh 0)), (1, .int (iI x1)), (3, .long (lL x3)), (5, .long (lL x5)), (7, .int (iI x7)), (8, .int (iI x8))] rfl 134 rfl ?_
          refine k_lload C dX6_where_134 2 rfl 136 rfl ?_
          refine k_lstore_n C dX6_where_136 rfl (by decide) [(3, .long (lL r96)), (2, .int (iI x8)), (12, .long (lL r107)), (10, .long (lL r96)), (9, .int (iI r85)), (0, .ref (qh 0)), (1, .int (iI x1)), (5, .long (lL x5)), (7, .int (iI x7)), (8, .int (iI x8))] rfl 137 rfl ?_
          refine k_lload C dX6_where_137 2 rfl 139 rfl ?_
          refine k_lstore C dX6_where_139 (by decide) [(5, .long (lL r107)), (3, .long (lL r96)), (2, .int (iI x8)), (12, .long (lL r107)), (10, .long (lL r96)), (9, .int (iI r85)), (0, .ref (qh 0)), (1, .int (iI x1)), (7, .int (iI x7)), (8, .int (iI x8))] rfl 141 rfl ?_
          refine k_lv C [6, 7, 2, 1, 0, 8, 9] [(0, .ref (qh 0)), (1, .int (iI x1)), (2, .int (iI x8)), (3, .long (lL r96)), (5, .long (lL r107)), (7, .int (iI x7)), (8, .int (iI x8))] rfl ?_
          refine w_X6_where_141 C x1 x8 r96 r107 x7 x8 S_r T_r_68 U_r_78 h (fun x1 x2 x3 x5 x7 x8 S_r T_r U_r h => ?_)
          · exact ih x1 x2 x3 x5 x7 x8 S_r T_r U_r h hK_155
        · have h := hf hc115; clear ht hf
          refine k_lload C dX6_where_118 1 rfl 120 rfl ?_
          refine k_lload C dX6_where_120 7 rfl 122 rfl ?_
          refine k_lmul C dX6_where_122 123 rfl ?_
          refine k_lload_n C dX6_where_123 6 rfl rfl 124 rfl ?_
          refine k_lload C dX6_where_124 0 rfl 126 rfl ?_
          refine k_lmul C dX6_where_126 127 rfl ?_
          obtain ⟨hr127a, hr127b, h⟩ := h
          obtain ⟨ht, hf⟩ := h
          refine k_lcmp_ge C dX6_where_127 dX6_where_128 ⟨hr127a, hr127b⟩ 141 131 (by decide) rfl (fun hc127 => ?_) (fun hc127 => ?_)
          · have h := ht hc127; clear ht hf
            refine k_lv C [3, 4, 5, 6, 7, 8, 9] [(0, .ref (qh 0)), (1, .int (iI x1)), (2, .int (iI x2)), (3, .long (lL x3)), (5, .long (lL x5)), (7, .int (iI x7)), (8, .int (iI x8))] rfl ?_
            refine w_X6_where_141 C x1 x2 x3 x5 x7 x8 S_r T_r_68 U_r_78 h (fun x1 x2 x3 x5 x7 x8 S_r T_r U_r h => ?_)
            · exact ih x1 x2 x3 x5 x7 x8 S_r T_r U_r h hK_155
          · have h := hf hc127; clear ht hf
            refine k_iload C dX6_where_131 9 rfl 133 rfl ?_
            refine k_istore_n C dX6_where_133 rfl (by decide) [(2, .int (iI x8)), (12, .long (lL r107)), (10, .long (lL r96)), (9, .int (iI r85)), (0, .ref (qh 0)), (1, .int (iI x1)), (3, .long (lL x3)), (5, .long (lL x5)), (7, .int (iI x7)), (8, .int (iI x8))] rfl 134 rfl ?_
            refine k_lload C dX6_where_134 2 rfl 136 rfl ?_
            refine k_lstore_n C dX6_where_136 rfl (by decide) [(3, .long (lL r96)), (2, .int (iI x8)), (12, .long (lL r107)), (10, .long (lL r96)), (9, .int (iI r85)), (0, .ref (qh 0)), (1, .int (iI x1)), (5, .long (lL x5)), (7, .int (iI x7)), (8, .int (iI x8))] rfl 137 rfl ?_
            refine k_lload C dX6_where_137 2 rfl 139 rfl ?_
            refine k_lstore C dX6_where_139 (by decide) [(5, .long (lL r107)), (3, .long (lL r96)), (2, .int (iI x8)), (12, .long (lL r107)), (10, .long (lL r96)), (9, .int (iI r85)), (0, .ref (qh 0)), (1, .int (iI x1)), (7, .int (iI x7)), (8, .int (iI x8))] rfl 141 rfl ?_
            refine k_lv C [6, 7, 2, 1, 0, 8, 9] [(0, .ref (qh 0)), (1, .int (iI x1)), (2, .int (iI x8)), (3, .long (lL r96)), (5, .long (lL r107)), (7, .int (iI x7)), (8, .int (iI x8))] rfl ?_
            refine w_X6_where_141 C x1 x8 r96 r107 x7 x8 S_r T_r_68 U_r_78 h (fun x1 x2 x3 x5 x7 x8 S_r T_r U_r h => ?_)
            · exact ih x1 x2 x3 x5 x7 x8 S_r T_r U_r h hK_155
set_option maxHeartbeats 4000000 in
set_option maxRecDepth 20000 in
theorem c_X6_where {l : Launch} {D : va_G} {cI cJ cZ : ClassId} (qh : Nat → Nat) (qn : Nat → Nat) (qr : Nat → Nat) (qs : Nat → Nat) (qp : Nat → Nat) (qi : Nat → Nat) (qj : Nat → Nat) (qw : Nat → Nat) (qo : Nat → Nat) (S_n : gWS) (T_n : gWT) (U_n : gWU) (S_r : gWS) (T_r : gWT) (U_r : gWU) (x1 : Int) (Q : Int → gWS → gWT → gWU → Prop) (h : wp_X6_where S_n T_n S_r T_r U_r x1 Q) : KM l D (kT cI cJ cZ) 0 0 yX6_where wsX6_where rm_X6_where [.ref (qh 0), .int (iI x1)] ((wdX cI cJ cZ qh qn qr qs qp qi qj qw qo ) ++ (wdW cI cJ cZ qn S_n T_n U_n) ++ (wdW cI cJ cZ qr S_r T_r U_r)) (rp_X6_where cI cJ cZ qh qn qr qs qp qi qj qw qo S_n T_n U_n Q) := by
  refine KM_intro (lv := [(0, .ref (qh 0)), (1, .int (iI x1))]) false rfl (by decide) (Nat.le_of_ble_eq_true rfl) rfl (fun h => absurd h (by decide)) (fun v ws hq => by obtain ⟨r, S_r, T_r, U_r, rfl, rfl, _⟩ := hq; exact Or.inr (Or.inl ⟨rfl, _, rfl⟩)) (fun A K C => ?_)
  refine k_iload_n C dX6_where_0 1 rfl rfl 1 rfl ?_
  have hM := c_X6_isNoGuest (l := l) (D := D) (cI := cI) (cJ := cJ) (cZ := cZ) x1 _ h
  refine k_callS C dX6_where_1 hM gX6_where_X6_isNoGuest rfl sg_X6_isNoGuest rfl (Nat.le_of_ble_eq_true rfl) ⟨⟨rfl, rfl⟩, by decide, by decide⟩ ⟨Nat.le_refl 0, Nat.le_refl 0⟩ [] [0, 1, 2, 3, 4, 5, 6, 7, 8, 9, 10, 11, 12, 13, 14, 15, 16, 17, 18] rfl rfl rfl rfl (by decide) 0 0 ⟨rfl, rfl⟩ 4 rfl (fun v w1 hq1 => ?_)
  obtain ⟨r1, rfl, rfl, hb1, h⟩ := hq1
  refine k_perm C [0, 1, 2, 3, 4, 5, 6, 7, 8, 9, 10, 11, 12, 13, 14, 15, 16, 17, 18] [.int (iI r1)] ((wdX cI cJ cZ qh qn qr qs qp qi qj qw qo ) ++ (wdW cI cJ cZ qn S_n T_n U_n) ++ (wdW cI cJ cZ qr S_r T_r U_r)) rfl rfl rfl ?_
  obtain ⟨ht, hf⟩ := h
  refine k_if_eq C dX6_where_4 (by rcases hb1 with rfl | rfl <;> decide) 9 7 (by decide) rfl (fun hc4 => ?_) (fun hc4 => ?_)
  · have h := ht hc4; clear ht hf
    refine k_aload_n C dX6_where_9 0 rfl rfl 10 rfl ?_
    refine k_get C dX6_where_10 0 rfl (ci := 6) rfl hin_X6_where_6 0 (by decide) (List.mem_of_getElem? (i := 1) rfl) rfl 13 rfl ?_
    refine k_iload_n C dX6_where_13 1 rfl rfl 14 rfl ?_
    have hM := c_X5_isFree (l := l) (D := D) (cI := cI) (cJ := cJ) (cZ := cZ) qn S_n T_n U_n x1 _ h
    refine k_callV C dX6_where_14 hM gX6_where_X5_isFree rfl sg_X5_isFree 5 rfl rfl rfl (Nat.le_of_ble_eq_true rfl) ⟨⟨rfl, rfl⟩, by decide, by decide⟩ ⟨Nat.le_refl 0, Nat.le_refl 0⟩ [1, 2, 3, 4, 5, 6, 7, 8, 9] [0, 10, 11, 12, 13, 14, 15, 16, 17, 18] rfl rfl rfl rfl (by decide) 0 0 ⟨rfl, rfl⟩ 17 rfl (fun v w1 hq14 => ?_)
    obtain ⟨r14, rfl, rfl, hb14, h⟩ := hq14
    refine k_perm C [0, 10, 11, 12, 13, 14, 15, 16, 17, 18, 1, 2, 3, 4, 5, 6, 7, 8, 9] [.int (iI r14)] ((wdX cI cJ cZ qh qn qr qs qp qi qj qw qo ) ++ (wdW cI cJ cZ qn S_n T_n U_n) ++ (wdW cI cJ cZ qr S_r T_r U_r)) rfl rfl rfl ?_
    obtain ⟨ht, hf⟩ := h
    refine k_if_ne C dX6_where_17 (by rcases hb14 with rfl | rfl <;> decide) 23 20 (by decide) rfl (fun hc17 => ?_) (fun hc17 => ?_)
    · have h := ht hc17; clear ht hf
      refine k_aload_n C dX6_where_23 0 rfl rfl 24 rfl ?_
      refine k_get C dX6_where_24 0 rfl (ci := 6) rfl hin_X6_where_6 1 (by decide) (List.mem_of_getElem? (i := 2) rfl) rfl 27 rfl ?_
      refine k_aload_n C dX6_where_27 0 rfl rfl 28 rfl ?_
      refine k_get C dX6_where_28 0 rfl (ci := 6) rfl hin_X6_where_6 0 (by decide) (List.mem_of_getElem? (i := 1) rfl) rfl 31 rfl ?_
      have hM := c_X5_become (l := l) (D := D) (cI := cI) (cJ := cJ) (cZ := cZ) qr qn S_r T_r U_r S_n T_n U_n _ h
      refine k_callV C dX6_where_31 hM gX6_where_X5_become rfl sg_X5_become 5 rfl rfl rfl (Nat.le_of_ble_eq_true rfl) ⟨⟨rfl, rfl⟩, by decide, by decide⟩ ⟨Nat.le_refl 0, Nat.le_refl 0⟩ [10, 11, 12, 13, 14, 15, 16, 17, 18, 1, 2, 3, 4, 5, 6, 7, 8, 9] [0] rfl rfl rfl rfl (by decide) 0 0 ⟨rfl, rfl⟩ 34 rfl (fun v w1 hq31 => ?_)
      obtain ⟨S_r_31, T_r_31, rfl, rfl, h⟩ := hq31
      refine k_perm C [0, 10, 11, 12, 13, 14, 15, 16, 17, 18, 1, 2, 3, 4, 5, 6, 7, 8, 9] [] ((wdX cI cJ cZ qh qn qr qs qp qi qj qw qo ) ++ (wdW cI cJ cZ qn S_n T_n U_n) ++ (wdW cI cJ cZ qr S_r_31 T_r_31 U_r)) rfl rfl rfl ?_
      refine k_bipush C dX6_where_34 (by decide) 36 rfl ?_
      refine k_istore_n C dX6_where_36 rfl (by decide) [(2, .int (iI (-6))), (0, .ref (qh 0)), (1, .int (iI x1))] rfl 37 rfl ?_
      refine k_lconst (v := 0) C dX6_where_37 (by decide) 38 rfl ?_
      refine k_lstore_n C dX6_where_38 rfl (by decide) [(3, .long (lL 0)), (2, .int (iI (-6))), (0, .ref (qh 0)), (1, .int (iI x1))] rfl 39 rfl ?_
      refine k_lconst (v := 1) C dX6_where_39 (by decide) 40 rfl ?_
      refine k_lstore C dX6_where_40 (by decide) [(5, .long (lL 1)), (3, .long (lL 0)), (2, .int (iI (-6))), (0, .ref (qh 0)), (1, .int (iI x1))] rfl 42 rfl ?_
      refine k_aload_n C dX6_where_42 3 rfl rfl 43 rfl ?_
      refine k_get C dX6_where_43 0 rfl (ci := 6) rfl hin_X6_where_6 1 (by decide) (List.mem_of_getElem? (i := 2) rfl) rfl 46 rfl ?_
      refine k_getN C dX6_where_46 10 rfl (ci := 5) rfl hin_X6_where_5 0 (by decide) (List.mem_of_getElem? (i := 1) rfl) rfl 49 rfl ?_
      refine k_istore C dX6_where_49 (by decide) [(7, .int (iI S_r_31.1)), (5, .long (lL 1)), (3, .long (lL 0)), (2, .int (iI (-6))), (0, .ref (qh 0)), (1, .int (iI x1))] rfl 51 rfl ?_
      refine k_iconst C dX6_where_51 52 rfl ?_
      refine k_istore C dX6_where_52 (by decide) [(8, .int (iI 0)), (7, .int (iI S_r_31.1)), (5, .long (lL 1)), (3, .long (lL 0)), (2, .int (iI (-6))), (0, .ref (qh 0)), (1, .int (iI x1))] rfl 54 rfl ?_
      refine k_lv C [5, 6, 4, 3, 2, 1, 0] [(0, .ref (qh 0)), (1, .int (iI x1)), (2, .int (iI (-6))), (3, .long (lL 0)), (5, .long (lL 1)), (7, .int (iI S_r_31.1)), (8, .int (iI 0))] rfl ?_
      obtain ⟨m54, h⟩ := h
      refine w_X6_where_54 C m54 x1 (-6) 0 1 S_r_31.1 0 S_r_31 T_r_31 U_r h (fun x2 S_r T_r U_r h => ?_)
      · refine k_iload_n C dX6_where_155 0 rfl rfl 156 rfl ?_
        exact k_iret C dX6_where_156 ⟨x2, S_r, T_r, U_r, rfl, rfl, h⟩
    · have h := hf hc17; clear ht hf
      refine k_bipush C dX6_where_20 (by decide) 22 rfl ?_
      exact k_iret C dX6_where_22 ⟨(-3), S_r, T_r, U_r, rfl, rfl, h⟩
  · have h := hf hc4; clear ht hf
    refine k_iconst C dX6_where_7 8 rfl ?_
    exact k_iret C dX6_where_8 ⟨(-1), S_r, T_r, U_r, rfl, rfl, h⟩

/-! X6_gate -/
abbrev rm_X6_gate : Room := { frames := 4, cells := 0, slots := 0, locals := 132 }
theorem sg_X6_gate : yX6_gate.cls ≠ "java/lang/invoke/MethodHandle" ∧ yX6_gate.cls ≠ "java/lang/invoke/VarHandle" ∧ (parseMethodDescriptor yX6_gate.desc).map (fun d => d.parameters.length) = some 3 := by decide +kernel
theorem hin_X6_gate_5 : ∀ w ∈ wsX50, w ∈ wsX6_gate := fun _ h => List.mem_cons_of_mem _ (List.mem_append_right _ h)
theorem hin_X6_gate_6 : ∀ w ∈ wsX60, w ∈ wsX6_gate := fun _ h => List.mem_cons_of_mem _ (List.mem_append_left _ (List.mem_append_right _ h))
def rp_X6_gate (cI cJ cZ : ClassId) (qh : Nat → Nat) (qn : Nat → Nat) (qr : Nat → Nat) (qs : Nat → Nat) (qp : Nat → Nat) (qi : Nat → Nat) (qj : Nat → Nat) (qw : Nat → Nat) (qo : Nat → Nat) (S_n : gWS) (T_n : gWT) (U_n : gWU) (Q : Int → gWS → gWT → gWU → Prop) : Option Value → va_W → Prop := fun v w1 => ∃ (r : Int) (S_r : gWS) (T_r : gWT) (U_r : gWU), v = some (.int (iI r)) ∧ w1 = (wdX cI cJ cZ qh qn qr qs qp qi qj qw qo ) ++ (wdW cI cJ cZ qn S_n T_n U_n) ++ (wdW cI cJ cZ qr S_r T_r U_r) ∧ Q r S_r T_r U_r
def wp_X6_gate_110 (K_49 : Int → Int → Int → Int → Int → gWS → gWT → gWU → Prop)  (Q : Int → gWS → gWT → gWU → Prop) (x1 : Int) (x2 : Int) (x3 : Int) (x4 : Int) (x5 : Int) (S_r : gWS) (T_r : gWT) (U_r : gWU) : Prop :=
    wp_X5_lift S_r T_r x5 (fun (T_r_116 : gWT) => K_49 x1 x2 x3 x4 (x5 + 1) S_r T_r_116 U_r)
def wp_X6_gate_49 (K_125 : Int → gWS → gWT → gWU → Prop)  (Q : Int → gWS → gWT → gWU → Prop) : Nat → Int → Int → Int → Int → Int → gWS → gWT → gWU → Prop
  | 0, _, _, _, _, _, _, _, _ => False
  | n49 + 1, x1, x2, x3, x4, x5, S_r, T_r, U_r =>
    rI x5 ∧ ((10 ≤ x5 → K_125 x4 S_r T_r U_r) ∧ (¬ (10 ≤ x5) → wp_X6_at 10 S_r.2.2.1 x5 (fun (r65 : Int) => rI r65 ∧ rI x3 ∧ ((¬ r65 = x3 → wp_X6_gate_49 K_125 Q n49 x1 x2 x3 x4 (x5 + 1) S_r T_r U_r) ∧ (¬ (¬ r65 = x3) → wp_X5_put S_r T_r U_r x5 x1 (fun (r79 : Int) (T_r_79 : gWT) (U_r_79 : gWU) => rI r79 ∧ ((¬ r79 = 0 → wp_X6_gate_49 K_125 Q n49 x1 x2 x3 x4 (x5 + 1) S_r T_r_79 U_r_79) ∧ (¬ (¬ r79 = 0) → wp_X6_at 10 T_r_79.2.1 x5 (fun (r94 : Int) => rI r94 ∧ rI x2 ∧ ((¬ r94 = x2 → wp_X6_gate_110 (fun (x1 : Int) (x2 : Int) (x3 : Int) (x4 : Int) (x5 : Int) (S_r : gWS) (T_r : gWT) (U_r : gWU) => wp_X6_gate_49 K_125 Q n49 x1 x2 x3 x4 x5 S_r T_r U_r) Q x1 x2 x3 x4 x5 S_r T_r_79 U_r_79) ∧ (¬ (¬ r94 = x2) → wp_X6_gate_110 (fun (x1 : Int) (x2 : Int) (x3 : Int) (x4 : Int) (x5 : Int) (S_r : gWS) (T_r : gWT) (U_r : gWU) => wp_X6_gate_49 K_125 Q n49 x1 x2 x3 x4 x5 S_r T_r U_r) Q x1 x2 x3 (ior x4 (ishl 1 x5)) x5 S_r T_r_79 U_r_79)))))))))))
def wp_X6_gate (S_n : gWS) (T_n : gWT) (S_r : gWS) (T_r : gWT) (U_r : gWU) (x1 : Int) (x2 : Int) (x3 : Int) (Q : Int → gWS → gWT → gWU → Prop) : Prop :=
    wp_X6_isNoColumn S_n x1 (fun (r2 : Int) => ((r2 = 0 → wp_X6_isOutside x2 0 9 (fun (r14 : Int) => ((¬ r14 = 0 → Q (-2) S_r T_r U_r) ∧ (¬ (¬ r14 = 0) → wp_X6_isOutside x3 1 3 (fun (r23 : Int) => ((r23 = 0 → wp_X5_become S_r T_r S_n T_n (fun (S_r_40 : gWS) (T_r_40 : gWT) => ∃ m49, wp_X6_gate_49 (fun (x4 : Int) (S_r : gWS) (T_r : gWT) (U_r : gWU) => Q x4 S_r T_r U_r) Q m49 x1 x2 x3 0 0 S_r_40 T_r_40 U_r)) ∧ (¬ (r23 = 0) → Q (-2) S_r T_r U_r))))))) ∧ (¬ (r2 = 0) → Q (-1) S_r T_r U_r)))
set_option maxHeartbeats 4000000 in
set_option maxRecDepth 20000 in
theorem w_X6_gate_110 {l : Launch} {D : va_G} {cI cJ cZ : ClassId} {A : Nat → Prop} {K : KT} {qh : Nat → Nat} {qn : Nat → Nat} {qr : Nat → Nat} {qs : Nat → Nat} {qp : Nat → Nat} {qi : Nat → Nat} {qj : Nat → Nat} {qw : Nat → Nat} {qo : Nat → Nat} {S_n : gWS} {T_n : gWT} {U_n : gWU} {Q : Int → gWS → gWT → gWU → Prop} {K_49 : Int → Int → Int → Int → Int → gWS → gWT → gWU → Prop} (C : KC cX6_gate yX6_gate.cls wsX6_gate rm_X6_gate 6 D (kT cI cJ cZ) A l false (rp_X6_gate cI cJ cZ qh qn qr qs qp qi qj qw qo S_n T_n U_n Q) 0 0 K) : ∀ (x1 : Int) (x2 : Int) (x3 : Int) (x4 : Int) (x5 : Int) (S_r : gWS) (T_r : gWT) (U_r : gWU), wp_X6_gate_110 K_49 Q x1 x2 x3 x4 x5 S_r T_r U_r → (∀ (x1 : Int) (x2 : Int) (x3 : Int) (x4 : Int) (x5 : Int) (S_r : gWS) (T_r : gWT) (U_r : gWU), K_49 x1 x2 x3 x4 x5 S_r T_r U_r → K 0 0 49 [(0, .ref (qh 0)), (1, .int (iI x1)), (2, .int (iI x2)), (3, .int (iI x3)), (4, .int (iI x4)), (5, .int (iI x5))] [] ((wdX cI cJ cZ qh qn qr qs qp qi qj qw qo ) ++ (wdW cI cJ cZ qn S_n T_n U_n) ++ (wdW cI cJ cZ qr S_r T_r U_r))) → K 0 0 110 [(0, .ref (qh 0)), (1, .int (iI x1)), (2, .int (iI x2)), (3, .int (iI x3)), (4, .int (iI x4)), (5, .int (iI x5))] [] ((wdX cI cJ cZ qh qn qr qs qp qi qj qw qo ) ++ (wdW cI cJ cZ qn S_n T_n U_n) ++ (wdW cI cJ cZ qr S_r T_r U_r)) := by
  intro x1 x2 x3 x4 x5 S_r T_r U_r h hK_49
  refine k_aload_n C dX6_gate_110 0 rfl rfl 111 rfl ?_
  refine k_get C dX6_gate_111 0 rfl (ci := 6) rfl hin_X6_gate_6 1 (by decide) (List.mem_of_getElem? (i := 1) rfl) rfl 114 rfl ?_
  refine k_iload C dX6_gate_114 5 rfl 116 rfl ?_
  have hM := c_X5_lift (l := l) (D := D) (cI := cI) (cJ := cJ) (cZ := cZ) qr S_r T_r U_r x5 _ h
  refine k_callV C dX6_gate_116 hM gX6_gate_X5_lift rfl sg_X5_lift 5 rfl rfl rfl (Nat.le_of_ble_eq_true rfl) ⟨⟨rfl, rfl⟩, by decide, by decide⟩ ⟨Nat.le_refl 0, Nat.le_refl 0⟩ [10, 11, 12, 13, 14, 15, 16, 17, 18] [0, 1, 2, 3, 4, 5, 6, 7, 8, 9] rfl rfl rfl rfl (by decide) 0 0 ⟨rfl, rfl⟩ 119 rfl (fun v w1 hq116 => ?_)
  obtain ⟨T_r_116, rfl, rfl, h⟩ := hq116
  refine k_perm C [0, 1, 2, 3, 4, 5, 6, 7, 8, 9, 10, 11, 12, 13, 14, 15, 16, 17, 18] [] ((wdX cI cJ cZ qh qn qr qs qp qi qj qw qo ) ++ (wdW cI cJ cZ qn S_n T_n U_n) ++ (wdW cI cJ cZ qr S_r T_r_116 U_r)) rfl rfl rfl ?_
  refine k_iinc (j := 5) C dX6_gate_119 rfl (by decide) [(5, .int (iI (x5 + 1))), (0, .ref (qh 0)), (1, .int (iI x1)), (2, .int (iI x2)), (3, .int (iI x3)), (4, .int (iI x4))] rfl 122 rfl ?_
  refine k_goto C dX6_gate_122 49 (by decide) ?_
  refine k_lv C [1, 2, 3, 4, 5, 0] [(0, .ref (qh 0)), (1, .int (iI x1)), (2, .int (iI x2)), (3, .int (iI x3)), (4, .int (iI x4)), (5, .int (iI (x5 + 1)))] rfl ?_
  exact hK_49 x1 x2 x3 x4 (x5 + 1) S_r T_r_116 U_r h
set_option maxHeartbeats 4000000 in
set_option maxRecDepth 20000 in
theorem w_X6_gate_49 {l : Launch} {D : va_G} {cI cJ cZ : ClassId} {A : Nat → Prop} {K : KT} {qh : Nat → Nat} {qn : Nat → Nat} {qr : Nat → Nat} {qs : Nat → Nat} {qp : Nat → Nat} {qi : Nat → Nat} {qj : Nat → Nat} {qw : Nat → Nat} {qo : Nat → Nat} {S_n : gWS} {T_n : gWT} {U_n : gWU} {Q : Int → gWS → gWT → gWU → Prop} {K_125 : Int → gWS → gWT → gWU → Prop} (C : KC cX6_gate yX6_gate.cls wsX6_gate rm_X6_gate 6 D (kT cI cJ cZ) A l false (rp_X6_gate cI cJ cZ qh qn qr qs qp qi qj qw qo S_n T_n U_n Q) 0 0 K) : ∀ (n : Nat) (x1 : Int) (x2 : Int) (x3 : Int) (x4 : Int) (x5 : Int) (S_r : gWS) (T_r : gWT) (U_r : gWU), wp_X6_gate_49 K_125 Q n x1 x2 x3 x4 x5 S_r T_r U_r → (∀ (x4 : Int) (S_r : gWS) (T_r : gWT) (U_r : gWU), K_125 x4 S_r T_r U_r → K 0 0 125 [(4, .int (iI x4))] [] ((wdX cI cJ cZ qh qn qr qs qp qi qj qw qo ) ++ (wdW cI cJ cZ qn S_n T_n U_n) ++ (wdW cI cJ cZ qr S_r T_r U_r))) → K 0 0 49 [(0, .ref (qh 0)), (1, .int (iI x1)), (2, .int (iI x2)), (3, .int (iI x3)), (4, .int (iI x4)), (5, .int (iI x5))] [] ((wdX cI cJ cZ qh qn qr qs qp qi qj qw qo ) ++ (wdW cI cJ cZ qn S_n T_n U_n) ++ (wdW cI cJ cZ qr S_r T_r U_r)) := by
  intro n
  induction n with
  | zero => intro x1 x2 x3 x4 x5 S_r T_r U_r h; exact h.elim
  | succ n ih =>
    intro x1 x2 x3 x4 x5 S_r T_r U_r h hK_125
    refine k_iload C dX6_gate_49 5 rfl 51 rfl ?_
    refine k_bipush C dX6_gate_51 (by decide) 53 rfl ?_
    obtain ⟨hr53a, h⟩ := h
    obtain ⟨ht, hf⟩ := h
    refine k_icmp_ge C dX6_gate_53 ⟨hr53a, (by decide)⟩ 125 56 (by decide) rfl (fun hc53 => ?_) (fun hc53 => ?_)
    · have h := ht hc53; clear ht hf
      refine k_lv C [4] [(4, .int (iI x4))] rfl ?_
      exact hK_125 x4 S_r T_r U_r h
    · have h := hf hc53; clear ht hf
      refine k_aload_n C dX6_gate_56 0 rfl rfl 57 rfl ?_
      refine k_get C dX6_gate_57 0 rfl (ci := 6) rfl hin_X6_gate_6 1 (by decide) (List.mem_of_getElem? (i := 1) rfl) rfl 60 rfl ?_
      refine k_getN C dX6_gate_60 10 rfl (ci := 5) rfl hin_X6_gate_5 3 (by decide) (List.mem_of_getElem? (i := 4) rfl) rfl 63 rfl ?_
      refine k_iload C dX6_gate_63 5 rfl 65 rfl ?_
      have hM := c_X6_at (l := l) (D := D) (cI := cI) (cJ := cJ) (cZ := cZ) (qr 1) 10 (by decide) S_r.2.2.1 x5 _ h
      refine k_callS C dX6_gate_65 hM gX6_gate_X6_at rfl sg_X6_at rfl (Nat.le_of_ble_eq_true rfl) ⟨⟨rfl, rfl⟩, by decide, by decide⟩ ⟨Nat.le_refl 0, Nat.le_refl 0⟩ [11] [0, 1, 2, 3, 4, 5, 6, 7, 8, 9, 10, 12, 13, 14, 15, 16, 17, 18] rfl rfl rfl rfl (by decide) 0 0 ⟨rfl, rfl⟩ 68 rfl (fun v w1 hq65 => ?_)
      obtain ⟨r65, rfl, rfl, h⟩ := hq65
      refine k_perm C [0, 1, 2, 3, 4, 5, 6, 7, 8, 9, 10, 18, 11, 12, 13, 14, 15, 16, 17] [.int (iI r65)] ((wdX cI cJ cZ qh qn qr qs qp qi qj qw qo ) ++ (wdW cI cJ cZ qn S_n T_n U_n) ++ (wdW cI cJ cZ qr S_r T_r U_r)) rfl rfl rfl ?_
      refine k_iload_n C dX6_gate_68 3 rfl rfl 69 rfl ?_
      obtain ⟨hr69a, hr69b, h⟩ := h
      obtain ⟨ht, hf⟩ := h
      refine k_icmp_ne C dX6_gate_69 ⟨hr69a, hr69b⟩ 119 72 (by decide) rfl (fun hc69 => ?_) (fun hc69 => ?_)
      · have h := ht hc69; clear ht hf
        refine k_iinc (j := 5) C dX6_gate_119 rfl (by decide) [(5, .int (iI (x5 + 1))), (0, .ref (qh 0)), (1, .int (iI x1)), (2, .int (iI x2)), (3, .int (iI x3)), (4, .int (iI x4))] rfl 122 rfl ?_
        refine k_goto C dX6_gate_122 49 (by decide) ?_
        refine k_lv C [1, 2, 3, 4, 5, 0] [(0, .ref (qh 0)), (1, .int (iI x1)), (2, .int (iI x2)), (3, .int (iI x3)), (4, .int (iI x4)), (5, .int (iI (x5 + 1)))] rfl ?_
        exact ih x1 x2 x3 x4 (x5 + 1) S_r T_r U_r h hK_125
      · have h := hf hc69; clear ht hf
        refine k_aload_n C dX6_gate_72 0 rfl rfl 73 rfl ?_
        refine k_get C dX6_gate_73 0 rfl (ci := 6) rfl hin_X6_gate_6 1 (by decide) (List.mem_of_getElem? (i := 1) rfl) rfl 76 rfl ?_
        refine k_iload C dX6_gate_76 5 rfl 78 rfl ?_
        refine k_iload_n C dX6_gate_78 1 rfl rfl 79 rfl ?_
        have hM := c_X5_put (l := l) (D := D) (cI := cI) (cJ := cJ) (cZ := cZ) qr S_r T_r U_r x5 x1 _ h
        refine k_callV C dX6_gate_79 hM gX6_gate_X5_put rfl sg_X5_put 5 rfl rfl rfl (Nat.le_of_ble_eq_true rfl) ⟨⟨rfl, rfl⟩, by decide, by decide⟩ ⟨Nat.le_refl 0, Nat.le_refl 0⟩ [10, 11, 12, 13, 14, 15, 16, 17, 18] [0, 1, 2, 3, 4, 5, 6, 7, 8, 9] rfl rfl rfl rfl (by decide) 0 0 ⟨rfl, rfl⟩ 82 rfl (fun v w1 hq79 => ?_)
        obtain ⟨r79, T_r_79, U_r_79, rfl, rfl, h⟩ := hq79
        refine k_perm C [0, 1, 2, 3, 4, 5, 6, 7, 8, 9, 10, 11, 12, 13, 14, 15, 16, 17, 18] [.int (iI r79)] ((wdX cI cJ cZ qh qn qr qs qp qi qj qw qo ) ++ (wdW cI cJ cZ qn S_n T_n U_n) ++ (wdW cI cJ cZ qr S_r T_r_79 U_r_79)) rfl rfl rfl ?_
        obtain ⟨hr82a, h⟩ := h
        obtain ⟨ht, hf⟩ := h
        refine k_if_ne C dX6_gate_82 hr82a 119 85 (by decide) rfl (fun hc82 => ?_) (fun hc82 => ?_)
        · have h := ht hc82; clear ht hf
          refine k_iinc (j := 5) C dX6_gate_119 rfl (by decide) [(5, .int (iI (x5 + 1))), (0, .ref (qh 0)), (1, .int (iI x1)), (2, .int (iI x2)), (3, .int (iI x3)), (4, .int (iI x4))] rfl 122 rfl ?_
          refine k_goto C dX6_gate_122 49 (by decide) ?_
          refine k_lv C [1, 2, 3, 4, 5, 0] [(0, .ref (qh 0)), (1, .int (iI x1)), (2, .int (iI x2)), (3, .int (iI x3)), (4, .int (iI x4)), (5, .int (iI (x5 + 1)))] rfl ?_
          exact ih x1 x2 x3 x4 (x5 + 1) S_r T_r_79 U_r_79 h hK_125
        · have h := hf hc82; clear ht hf
          refine k_aload_n C dX6_gate_85 0 rfl rfl 86 rfl ?_
          refine k_get C dX6_gate_86 0 rfl (ci := 6) rfl hin_X6_gate_6 1 (by decide) (List.mem_of_getElem? (i := 1) rfl) rfl 89 rfl ?_
          refine k_getN C dX6_gate_89 10 rfl (ci := 5) rfl hin_X6_gate_5 6 (by decide) (List.mem_of_getElem? (i := 7) rfl) rfl 92 rfl ?_
          refine k_iload C dX6_gate_92 5 rfl 94 rfl ?_
          have hM := c_X6_at (l := l) (D := D) (cI := cI) (cJ := cJ) (cZ := cZ) (qr 4) 10 (by decide) T_r_79.2.1 x5 _ h
          refine k_callS C dX6_gate_94 hM gX6_gate_X6_at rfl sg_X6_at rfl (Nat.le_of_ble_eq_true rfl) ⟨⟨rfl, rfl⟩, by decide, by decide⟩ ⟨Nat.le_refl 0, Nat.le_refl 0⟩ [14] [0, 1, 2, 3, 4, 5, 6, 7, 8, 9, 10, 11, 12, 13, 15, 16, 17, 18] rfl rfl rfl rfl (by decide) 0 0 ⟨rfl, rfl⟩ 97 rfl (fun v w1 hq94 => ?_)
          obtain ⟨r94, rfl, rfl, h⟩ := hq94
          refine k_perm C [0, 1, 2, 3, 4, 5, 6, 7, 8, 9, 10, 11, 12, 13, 18, 14, 15, 16, 17] [.int (iI r94)] ((wdX cI cJ cZ qh qn qr qs qp qi qj qw qo ) ++ (wdW cI cJ cZ qn S_n T_n U_n) ++ (wdW cI cJ cZ qr S_r T_r_79 U_r_79)) rfl rfl rfl ?_
          refine k_iload_n C dX6_gate_97 2 rfl rfl 98 rfl ?_
          obtain ⟨hr98a, hr98b, h⟩ := h
          obtain ⟨ht, hf⟩ := h
          refine k_icmp_ne C dX6_gate_98 ⟨hr98a, hr98b⟩ 110 101 (by decide) rfl (fun hc98 => ?_) (fun hc98 => ?_)
          · have h := ht hc98; clear ht hf
            refine w_X6_gate_110 C x1 x2 x3 x4 x5 S_r T_r_79 U_r_79 h (fun x1 x2 x3 x4 x5 S_r T_r U_r h => ?_)
            · exact ih x1 x2 x3 x4 x5 S_r T_r U_r h hK_125
          · have h := hf hc98; clear ht hf
            refine k_iload C dX6_gate_101 4 rfl 103 rfl ?_
            refine k_iconst C dX6_gate_103 104 rfl ?_
            refine k_iload C dX6_gate_104 5 rfl 106 rfl ?_
            refine k_ishl C dX6_gate_106 107 rfl ?_
            refine k_ior C dX6_gate_107 108 rfl ?_
            refine k_istore C dX6_gate_108 (by decide) [(4, .int (iI (ior x4 (ishl 1 x5)))), (0, .ref (qh 0)), (1, .int (iI x1)), (2, .int (iI x2)), (3, .int (iI x3)), (5, .int (iI x5))] rfl 110 rfl ?_
            refine k_lv C [1, 2, 3, 4, 0, 5] [(0, .ref (qh 0)), (1, .int (iI x1)), (2, .int (iI x2)), (3, .int (iI x3)), (4, .int (iI (ior x4 (ishl 1 x5)))), (5, .int (iI x5))] rfl ?_
            refine w_X6_gate_110 C x1 x2 x3 (ior x4 (ishl 1 x5)) x5 S_r T_r_79 U_r_79 h (fun x1 x2 x3 x4 x5 S_r T_r U_r h => ?_)
            · exact ih x1 x2 x3 x4 x5 S_r T_r U_r h hK_125
set_option maxHeartbeats 4000000 in
set_option maxRecDepth 20000 in
theorem c_X6_gate {l : Launch} {D : va_G} {cI cJ cZ : ClassId} (qh : Nat → Nat) (qn : Nat → Nat) (qr : Nat → Nat) (qs : Nat → Nat) (qp : Nat → Nat) (qi : Nat → Nat) (qj : Nat → Nat) (qw : Nat → Nat) (qo : Nat → Nat) (S_n : gWS) (T_n : gWT) (U_n : gWU) (S_r : gWS) (T_r : gWT) (U_r : gWU) (x1 : Int) (x2 : Int) (x3 : Int) (Q : Int → gWS → gWT → gWU → Prop) (h : wp_X6_gate S_n T_n S_r T_r U_r x1 x2 x3 Q) : KM l D (kT cI cJ cZ) 0 0 yX6_gate wsX6_gate rm_X6_gate [.ref (qh 0), .int (iI x1), .int (iI x2), .int (iI x3)] ((wdX cI cJ cZ qh qn qr qs qp qi qj qw qo ) ++ (wdW cI cJ cZ qn S_n T_n U_n) ++ (wdW cI cJ cZ qr S_r T_r U_r)) (rp_X6_gate cI cJ cZ qh qn qr qs qp qi qj qw qo S_n T_n U_n Q) := by
  refine KM_intro (lv := [(0, .ref (qh 0)), (1, .int (iI x1)), (2, .int (iI x2)), (3, .int (iI x3))]) false rfl (by decide) (Nat.le_of_ble_eq_true rfl) rfl (fun h => absurd h (by decide)) (fun v ws hq => by obtain ⟨r, S_r, T_r, U_r, rfl, rfl, _⟩ := hq; exact Or.inr (Or.inl ⟨rfl, _, rfl⟩)) (fun A K C => ?_)
  refine k_aload_n C dX6_gate_0 0 rfl rfl 1 rfl ?_
  refine k_iload_n C dX6_gate_1 1 rfl rfl 2 rfl ?_
  have hM := c_X6_isNoColumn (l := l) (D := D) (cI := cI) (cJ := cJ) (cZ := cZ) qh qn qr qs qp qi qj qw qo S_n T_n U_n x1 _ h
  refine k_callV C dX6_gate_2 hM gX6_gate_X6_isNoColumn rfl sg_X6_isNoColumn 6 rfl rfl rfl (Nat.le_of_ble_eq_true rfl) ⟨⟨rfl, rfl⟩, by decide, by decide⟩ ⟨Nat.le_refl 0, Nat.le_refl 0⟩ [0, 1, 2, 3, 4, 5, 6, 7, 8, 9] [10, 11, 12, 13, 14, 15, 16, 17, 18] rfl rfl rfl rfl (by decide) 0 0 ⟨rfl, rfl⟩ 5 rfl (fun v w1 hq2 => ?_)
  obtain ⟨r2, rfl, rfl, hb2, h⟩ := hq2
  refine k_perm C [9, 10, 11, 12, 13, 14, 15, 16, 17, 18, 0, 1, 2, 3, 4, 5, 6, 7, 8] [.int (iI r2)] ((wdX cI cJ cZ qh qn qr qs qp qi qj qw qo ) ++ (wdW cI cJ cZ qn S_n T_n U_n) ++ (wdW cI cJ cZ qr S_r T_r U_r)) rfl rfl rfl ?_
  obtain ⟨ht, hf⟩ := h
  refine k_if_eq C dX6_gate_5 (by rcases hb2 with rfl | rfl <;> decide) 10 8 (by decide) rfl (fun hc5 => ?_) (fun hc5 => ?_)
  · have h := ht hc5; clear ht hf
    refine k_iload_n C dX6_gate_10 2 rfl rfl 11 rfl ?_
    refine k_iconst C dX6_gate_11 12 rfl ?_
    refine k_bipush C dX6_gate_12 (by decide) 14 rfl ?_
    have hM := c_X6_isOutside (l := l) (D := D) (cI := cI) (cJ := cJ) (cZ := cZ) x2 0 9 _ h
    refine k_callS C dX6_gate_14 hM gX6_gate_X6_isOutside rfl sg_X6_isOutside rfl (Nat.le_of_ble_eq_true rfl) ⟨⟨rfl, rfl⟩, by decide, by decide⟩ ⟨Nat.le_refl 0, Nat.le_refl 0⟩ [] [0, 1, 2, 3, 4, 5, 6, 7, 8, 9, 10, 11, 12, 13, 14, 15, 16, 17, 18] rfl rfl rfl rfl (by decide) 0 0 ⟨rfl, rfl⟩ 17 rfl (fun v w1 hq14 => ?_)
    obtain ⟨r14, rfl, rfl, hb14, h⟩ := hq14
    refine k_perm C [0, 1, 2, 3, 4, 5, 6, 7, 8, 9, 10, 11, 12, 13, 14, 15, 16, 17, 18] [.int (iI r14)] ((wdX cI cJ cZ qh qn qr qs qp qi qj qw qo ) ++ (wdW cI cJ cZ qn S_n T_n U_n) ++ (wdW cI cJ cZ qr S_r T_r U_r)) rfl rfl rfl ?_
    obtain ⟨ht, hf⟩ := h
    refine k_if_ne C dX6_gate_17 (by rcases hb14 with rfl | rfl <;> decide) 29 20 (by decide) rfl (fun hc17 => ?_) (fun hc17 => ?_)
    · have h := ht hc17; clear ht hf
      refine k_bipush C dX6_gate_29 (by decide) 31 rfl ?_
      exact k_iret C dX6_gate_31 ⟨(-2), S_r, T_r, U_r, rfl, rfl, h⟩
    · have h := hf hc17; clear ht hf
      refine k_iload_n C dX6_gate_20 3 rfl rfl 21 rfl ?_
      refine k_iconst C dX6_gate_21 22 rfl ?_
      refine k_iconst C dX6_gate_22 23 rfl ?_
      have hM := c_X6_isOutside (l := l) (D := D) (cI := cI) (cJ := cJ) (cZ := cZ) x3 1 3 _ h
      refine k_callS C dX6_gate_23 hM gX6_gate_X6_isOutside rfl sg_X6_isOutside rfl (Nat.le_of_ble_eq_true rfl) ⟨⟨rfl, rfl⟩, by decide, by decide⟩ ⟨Nat.le_refl 0, Nat.le_refl 0⟩ [] [0, 1, 2, 3, 4, 5, 6, 7, 8, 9, 10, 11, 12, 13, 14, 15, 16, 17, 18] rfl rfl rfl rfl (by decide) 0 0 ⟨rfl, rfl⟩ 26 rfl (fun v w1 hq23 => ?_)
      obtain ⟨r23, rfl, rfl, hb23, h⟩ := hq23
      refine k_perm C [0, 1, 2, 3, 4, 5, 6, 7, 8, 9, 10, 11, 12, 13, 14, 15, 16, 17, 18] [.int (iI r23)] ((wdX cI cJ cZ qh qn qr qs qp qi qj qw qo ) ++ (wdW cI cJ cZ qn S_n T_n U_n) ++ (wdW cI cJ cZ qr S_r T_r U_r)) rfl rfl rfl ?_
      obtain ⟨ht, hf⟩ := h
      refine k_if_eq C dX6_gate_26 (by rcases hb23 with rfl | rfl <;> decide) 32 29 (by decide) rfl (fun hc26 => ?_) (fun hc26 => ?_)
      · have h := ht hc26; clear ht hf
        refine k_aload_n C dX6_gate_32 0 rfl rfl 33 rfl ?_
        refine k_get C dX6_gate_33 0 rfl (ci := 6) rfl hin_X6_gate_6 1 (by decide) (List.mem_of_getElem? (i := 1) rfl) rfl 36 rfl ?_
        refine k_aload_n C dX6_gate_36 0 rfl rfl 37 rfl ?_
        refine k_get C dX6_gate_37 0 rfl (ci := 6) rfl hin_X6_gate_6 0 (by decide) (List.mem_of_getElem? (i := 2) rfl) rfl 40 rfl ?_
        have hM := c_X5_become (l := l) (D := D) (cI := cI) (cJ := cJ) (cZ := cZ) qr qn S_r T_r U_r S_n T_n U_n _ h
        refine k_callV C dX6_gate_40 hM gX6_gate_X5_become rfl sg_X5_become 5 rfl rfl rfl (Nat.le_of_ble_eq_true rfl) ⟨⟨rfl, rfl⟩, by decide, by decide⟩ ⟨Nat.le_refl 0, Nat.le_refl 0⟩ [10, 11, 12, 13, 14, 15, 16, 17, 18, 1, 2, 3, 4, 5, 6, 7, 8, 9] [0] rfl rfl rfl rfl (by decide) 0 0 ⟨rfl, rfl⟩ 43 rfl (fun v w1 hq40 => ?_)
        obtain ⟨S_r_40, T_r_40, rfl, rfl, h⟩ := hq40
        refine k_perm C [0, 10, 11, 12, 13, 14, 15, 16, 17, 18, 1, 2, 3, 4, 5, 6, 7, 8, 9] [] ((wdX cI cJ cZ qh qn qr qs qp qi qj qw qo ) ++ (wdW cI cJ cZ qn S_n T_n U_n) ++ (wdW cI cJ cZ qr S_r_40 T_r_40 U_r)) rfl rfl rfl ?_
        refine k_iconst C dX6_gate_43 44 rfl ?_
        refine k_istore C dX6_gate_44 (by decide) [(4, .int (iI 0)), (0, .ref (qh 0)), (1, .int (iI x1)), (2, .int (iI x2)), (3, .int (iI x3))] rfl 46 rfl ?_
        refine k_iconst C dX6_gate_46 47 rfl ?_
        refine k_istore C dX6_gate_47 (by decide) [(5, .int (iI 0)), (4, .int (iI 0)), (0, .ref (qh 0)), (1, .int (iI x1)), (2, .int (iI x2)), (3, .int (iI x3))] rfl 49 rfl ?_
        refine k_lv C [2, 3, 4, 5, 1, 0] [(0, .ref (qh 0)), (1, .int (iI x1)), (2, .int (iI x2)), (3, .int (iI x3)), (4, .int (iI 0)), (5, .int (iI 0))] rfl ?_
        obtain ⟨m49, h⟩ := h
        refine w_X6_gate_49 C m49 x1 x2 x3 0 0 S_r_40 T_r_40 U_r h (fun x4 S_r T_r U_r h => ?_)
        · refine k_iload C dX6_gate_125 0 rfl 127 rfl ?_
          exact k_iret C dX6_gate_127 ⟨x4, S_r, T_r, U_r, rfl, rfl, h⟩
      · have h := hf hc26; clear ht hf
        refine k_bipush C dX6_gate_29 (by decide) 31 rfl ?_
        exact k_iret C dX6_gate_31 ⟨(-2), S_r, T_r, U_r, rfl, rfl, h⟩
  · have h := hf hc5; clear ht hf
    refine k_iconst C dX6_gate_8 9 rfl ?_
    exact k_iret C dX6_gate_9 ⟨(-1), S_r, T_r, U_r, rfl, rfl, h⟩

/-! X6_arrange -/
abbrev rm_X6_arrange (d : Nat) : Room := { frames := 4 + d, cells := 0, slots := 0, locals := 132 + 24 * d }
theorem sg_X6_arrange : yX6_arrange.cls ≠ "java/lang/invoke/MethodHandle" ∧ yX6_arrange.cls ≠ "java/lang/invoke/VarHandle" ∧ (parseMethodDescriptor yX6_arrange.desc).map (fun d => d.parameters.length) = some 4 := by decide +kernel
theorem hin_X6_arrange_1 : ∀ w ∈ wsX10, w ∈ wsX6_arrange := fun _ h => List.mem_cons_of_mem _ (List.mem_append_left _ (List.mem_append_right _ h))
def rp_X6_arrange (cI cJ cZ : ClassId) (qa0 : Nat → Nat) (qa1 : Nat → Nat) (S_a0 : gWS) (OC_a1 : gOOC) (Q : gWT → gWU → gOO → Prop) : Option Value → va_W → Prop := fun v w1 => ∃ (T_a0 : gWT) (U_a0 : gWU) (O_a1 : gOO), v = none ∧ w1 = (wdW cI cJ cZ qa0 S_a0 T_a0 U_a0) ++ (wdO cI cJ cZ qa1 OC_a1 O_a1) ∧ Q T_a0 U_a0 O_a1
def wp_X6_arrange_31 (REC : gWS → gWT → gWU → gOOC → gOO → Int → Int → (gWT → gWU → gOO → Prop) → Prop) (S_a0 : gWS) (OC_a1 : gOOC) (K_103 : gWT → gWU → gOO → Prop)  (Q : gWT → gWU → gOO → Prop) : Nat → Int → Int → Int → gWT → gWU → gOO → Prop
  | 0, _, _, _, _, _, _ => False
  | n31 + 1, x2, x3, x4, T_a0, U_a0, O_a1 =>
    rI x4 ∧ ((10 ≤ x4 → K_103 T_a0 U_a0 O_a1) ∧ (¬ (10 ≤ x4) → wp_X6_hasBit x2 x4 (fun (r41 : Int) => ((r41 = 0 → wp_X6_arrange_31 REC S_a0 OC_a1 K_103 Q n31 x2 x3 (x4 + 1) T_a0 U_a0 O_a1) ∧ (¬ (r41 = 0) → wp_X6_at 10 OC_a1 x4 (fun (r56 : Int) => wp_X5_put S_a0 T_a0 U_a0 x4 r56 (fun (r59 : Int) (T_a0_59 : gWT) (U_a0_59 : gWU) => rI r59 ∧ ((¬ r59 = 0 → wp_X6_arrange_31 REC S_a0 OC_a1 K_103 Q n31 x2 x3 (x4 + 1) T_a0_59 U_a0_59 O_a1) ∧ (¬ (¬ r59 = 0) → wp_X6_set 6 O_a1.2.1 x3 x4 (fun (f_a0_72 : Int → Int) => REC S_a0 T_a0_59 U_a0_59 OC_a1 (O_a1.1, f_a0_72, O_a1.2.2) (iand x2 (ixor (ishl 1 x4) (-1))) (x3 + 1) (fun (T_a0_88 : gWT) (U_a0_88 : gWU) (O_a1_88 : gOO) => wp_X5_lift S_a0 T_a0_88 x4 (fun (T_a0_94 : gWT) => wp_X6_arrange_31 REC S_a0 OC_a1 K_103 Q n31 x2 x3 (x4 + 1) T_a0_94 U_a0_88 O_a1_88))))))))))))
def wpb_X6_arrange (REC : gWS → gWT → gWU → gOOC → gOO → Int → Int → (gWT → gWU → gOO → Prop) → Prop) (S_a0 : gWS) (T_a0 : gWT) (U_a0 : gWU) (OC_a1 : gOOC) (O_a1 : gOO) (x2 : Int) (x3 : Int) (Q : gWT → gWU → gOO → Prop) : Prop :=
    rI x3 ∧ ((x3 < 0 → Q T_a0 U_a0 O_a1) ∧ (¬ (x3 < 0) → ((x3 ≤ 6 → rI x2 ∧ ((¬ x2 = 0 → ∃ m31, wp_X6_arrange_31 REC S_a0 OC_a1 (fun (T_a0 : gWT) (U_a0 : gWU) (O_a1 : gOO) => Q T_a0 U_a0 O_a1) Q m31 x2 x3 0 T_a0 U_a0 O_a1) ∧ (¬ (¬ x2 = 0) → wp_X1_add O_a1 (fun (O_a1_24 : gOO) => Q T_a0 U_a0 O_a1_24)))) ∧ (¬ (x3 ≤ 6) → Q T_a0 U_a0 O_a1))))
def wp_X6_arrange : Nat → (gWS → gWT → gWU → gOOC → gOO → Int → Int → (gWT → gWU → gOO → Prop) → Prop)
  | 0 => fun _ _ _ _ _ _ _ _ => False
  | d + 1 => wpb_X6_arrange (wp_X6_arrange d)
set_option maxHeartbeats 4000000 in
set_option maxRecDepth 20000 in
theorem w_X6_arrange_31 {l : Launch} {D : va_G} {cI cJ cZ : ClassId} {A : Nat → Prop} {K : KT} {d : Nat} {REC : gWS → gWT → gWU → gOOC → gOO → Int → Int → (gWT → gWU → gOO → Prop) → Prop} {qa0 : Nat → Nat} {qa1 : Nat → Nat} {S_a0 : gWS} {OC_a1 : gOOC} {Q : gWT → gWU → gOO → Prop} {K_103 : gWT → gWU → gOO → Prop} (C : KC cX6_arrange yX6_arrange.cls wsX6_arrange (rm_X6_arrange (d + 1)) 5 D (kT cI cJ cZ) A l false (rp_X6_arrange cI cJ cZ qa0 qa1 S_a0 OC_a1 Q) 0 0 K) (hREC : ∀ (S_a0 : gWS) (T_a0 : gWT) (U_a0 : gWU) (OC_a1 : gOOC) (O_a1 : gOO) (x2 : Int) (x3 : Int) (Q : gWT → gWU → gOO → Prop), REC S_a0 T_a0 U_a0 OC_a1 O_a1 x2 x3 Q → KM l D (kT cI cJ cZ) 0 0 yX6_arrange wsX6_arrange (rm_X6_arrange d) [.ref (qa0 0), .ref (qa1 0), .int (iI x2), .int (iI x3)] ((wdW cI cJ cZ qa0 S_a0 T_a0 U_a0) ++ (wdO cI cJ cZ qa1 OC_a1 O_a1)) (rp_X6_arrange cI cJ cZ qa0 qa1 S_a0 OC_a1 Q)) : ∀ (n : Nat) (x2 : Int) (x3 : Int) (x4 : Int) (T_a0 : gWT) (U_a0 : gWU) (O_a1 : gOO), wp_X6_arrange_31 REC S_a0 OC_a1 K_103 Q n x2 x3 x4 T_a0 U_a0 O_a1 → (∀ (T_a0 : gWT) (U_a0 : gWU) (O_a1 : gOO), K_103 T_a0 U_a0 O_a1 → K 0 0 103 [] [] ((wdW cI cJ cZ qa0 S_a0 T_a0 U_a0) ++ (wdO cI cJ cZ qa1 OC_a1 O_a1))) → K 0 0 31 [(0, .ref (qa0 0)), (1, .ref (qa1 0)), (2, .int (iI x2)), (3, .int (iI x3)), (4, .int (iI x4))] [] ((wdW cI cJ cZ qa0 S_a0 T_a0 U_a0) ++ (wdO cI cJ cZ qa1 OC_a1 O_a1)) := by
  intro n
  induction n with
  | zero => intro x2 x3 x4 T_a0 U_a0 O_a1 h; exact h.elim
  | succ n ih =>
    intro x2 x3 x4 T_a0 U_a0 O_a1 h hK_103
    refine k_iload C dX6_arrange_31 4 rfl 33 rfl ?_
    refine k_bipush C dX6_arrange_33 (by decide) 35 rfl ?_
    obtain ⟨hr35a, h⟩ := h
    obtain ⟨ht, hf⟩ := h
    refine k_icmp_ge C dX6_arrange_35 ⟨hr35a, (by decide)⟩ 103 38 (by decide) rfl (fun hc35 => ?_) (fun hc35 => ?_)
    · have h := ht hc35; clear ht hf
      refine k_lv C [] [] rfl ?_
      exact hK_103 T_a0 U_a0 O_a1 h
    · have h := hf hc35; clear ht hf
      refine k_iload_n C dX6_arrange_38 2 rfl rfl 39 rfl ?_
      refine k_iload C dX6_arrange_39 4 rfl 41 rfl ?_
      have hM := c_X6_hasBit (l := l) (D := D) (cI := cI) (cJ := cJ) (cZ := cZ) x2 x4 _ h
      refine k_callS C dX6_arrange_41 hM gX6_arrange_X6_hasBit rfl sg_X6_hasBit rfl (Nat.le_of_ble_eq_true rfl) ⟨⟨rfl, rfl⟩, by simp only [rm_X6_arrange, rm_X6_hasBit]; omega, by simp only [rm_X6_arrange, rm_X6_hasBit]; omega⟩ ⟨Nat.le_refl 0, Nat.le_refl 0⟩ [] [0, 1, 2, 3, 4, 5, 6, 7, 8, 9, 10, 11, 12] rfl rfl rfl rfl (by decide) 0 0 ⟨rfl, rfl⟩ 44 rfl (fun v w1 hq41 => ?_)
      obtain ⟨r41, rfl, rfl, hb41, h⟩ := hq41
      refine k_perm C [0, 1, 2, 3, 4, 5, 6, 7, 8, 9, 10, 11, 12] [.int (iI r41)] ((wdW cI cJ cZ qa0 S_a0 T_a0 U_a0) ++ (wdO cI cJ cZ qa1 OC_a1 O_a1)) rfl rfl rfl ?_
      obtain ⟨ht, hf⟩ := h
      refine k_if_eq C dX6_arrange_44 (by rcases hb41 with rfl | rfl <;> decide) 97 47 (by decide) rfl (fun hc44 => ?_) (fun hc44 => ?_)
      · have h := ht hc44; clear ht hf
        refine k_iinc (j := 4) C dX6_arrange_97 rfl (by decide) [(4, .int (iI (x4 + 1))), (0, .ref (qa0 0)), (1, .ref (qa1 0)), (2, .int (iI x2)), (3, .int (iI x3))] rfl 100 rfl ?_
        refine k_goto C dX6_arrange_100 31 (by decide) ?_
        refine k_lv C [1, 2, 3, 4, 0] [(0, .ref (qa0 0)), (1, .ref (qa1 0)), (2, .int (iI x2)), (3, .int (iI x3)), (4, .int (iI (x4 + 1)))] rfl ?_
        exact ih x2 x3 (x4 + 1) T_a0 U_a0 O_a1 h hK_103
      · have h := hf hc44; clear ht hf
        refine k_aload_n C dX6_arrange_47 0 rfl rfl 48 rfl ?_
        refine k_iload C dX6_arrange_48 4 rfl 50 rfl ?_
        refine k_aload_n C dX6_arrange_50 1 rfl rfl 51 rfl ?_
        refine k_getN C dX6_arrange_51 9 rfl (ci := 1) rfl hin_X6_arrange_1 1 (by decide) (List.mem_of_getElem? (i := 28) rfl) rfl 54 rfl ?_
        refine k_iload C dX6_arrange_54 4 rfl 56 rfl ?_
        have hM := c_X6_at (l := l) (D := D) (cI := cI) (cJ := cJ) (cZ := cZ) (qa1 1) 10 (by decide) OC_a1 x4 _ h
        refine k_callS C dX6_arrange_56 hM gX6_arrange_X6_at rfl sg_X6_at rfl (Nat.le_of_ble_eq_true rfl) ⟨⟨rfl, rfl⟩, by simp only [rm_X6_arrange, rm_X6_at]; omega, by simp only [rm_X6_arrange, rm_X6_at]; omega⟩ ⟨Nat.le_refl 0, Nat.le_refl 0⟩ [10] [0, 1, 2, 3, 4, 5, 6, 7, 8, 9, 11, 12] rfl rfl rfl rfl (by decide) 0 0 ⟨rfl, rfl⟩ 59 rfl (fun v w1 hq56 => ?_)
        obtain ⟨r56, rfl, rfl, h⟩ := hq56
        refine k_perm C [0, 1, 2, 3, 4, 5, 6, 7, 8, 9, 12, 10, 11] [.int (iI r56), .int (iI x4), .ref (qa0 0)] ((wdW cI cJ cZ qa0 S_a0 T_a0 U_a0) ++ (wdO cI cJ cZ qa1 OC_a1 O_a1)) rfl rfl rfl ?_
        have hM := c_X5_put (l := l) (D := D) (cI := cI) (cJ := cJ) (cZ := cZ) qa0 S_a0 T_a0 U_a0 x4 r56 _ h
        refine k_callV C dX6_arrange_59 hM gX6_arrange_X5_put rfl sg_X5_put 5 rfl rfl rfl (Nat.le_of_ble_eq_true rfl) ⟨⟨rfl, rfl⟩, by simp only [rm_X6_arrange, rm_X5_put]; omega, by simp only [rm_X6_arrange, rm_X5_put]; omega⟩ ⟨Nat.le_refl 0, Nat.le_refl 0⟩ [0, 1, 2, 3, 4, 5, 6, 7, 8] [9, 10, 11, 12] rfl rfl rfl rfl (by decide) 0 0 ⟨rfl, rfl⟩ 62 rfl (fun v w1 hq59 => ?_)
        obtain ⟨r59, T_a0_59, U_a0_59, rfl, rfl, h⟩ := hq59
        refine k_perm C [4, 5, 6, 7, 8, 9, 10, 11, 12, 0, 1, 2, 3] [.int (iI r59)] ((wdW cI cJ cZ qa0 S_a0 T_a0_59 U_a0_59) ++ (wdO cI cJ cZ qa1 OC_a1 O_a1)) rfl rfl rfl ?_
        obtain ⟨hr62a, h⟩ := h
        obtain ⟨ht, hf⟩ := h
        refine k_if_ne C dX6_arrange_62 hr62a 97 65 (by decide) rfl (fun hc62 => ?_) (fun hc62 => ?_)
        · have h := ht hc62; clear ht hf
          refine k_iinc (j := 4) C dX6_arrange_97 rfl (by decide) [(4, .int (iI (x4 + 1))), (0, .ref (qa0 0)), (1, .ref (qa1 0)), (2, .int (iI x2)), (3, .int (iI x3))] rfl 100 rfl ?_
          refine k_goto C dX6_arrange_100 31 (by decide) ?_
          refine k_lv C [1, 2, 3, 4, 0] [(0, .ref (qa0 0)), (1, .ref (qa1 0)), (2, .int (iI x2)), (3, .int (iI x3)), (4, .int (iI (x4 + 1)))] rfl ?_
          exact ih x2 x3 (x4 + 1) T_a0_59 U_a0_59 O_a1 h hK_103
        · have h := hf hc62; clear ht hf
          refine k_aload_n C dX6_arrange_65 1 rfl rfl 66 rfl ?_
          refine k_getN C dX6_arrange_66 9 rfl (ci := 1) rfl hin_X6_arrange_1 2 (by decide) (List.mem_of_getElem? (i := 29) rfl) rfl 69 rfl ?_
          refine k_iload_n C dX6_arrange_69 3 rfl rfl 70 rfl ?_
          refine k_iload C dX6_arrange_70 4 rfl 72 rfl ?_
          have hM := c_X6_set (l := l) (D := D) (cI := cI) (cJ := cJ) (cZ := cZ) (qa1 2) 6 (by decide) O_a1.2.1 x3 x4 _ h
          refine k_callS C dX6_arrange_72 hM gX6_arrange_X6_set rfl sg_X6_set rfl (Nat.le_of_ble_eq_true rfl) ⟨⟨rfl, rfl⟩, by simp only [rm_X6_arrange, rm_X6_set]; omega, by simp only [rm_X6_arrange, rm_X6_set]; omega⟩ ⟨Nat.le_refl 0, Nat.le_refl 0⟩ [11] [0, 1, 2, 3, 4, 5, 6, 7, 8, 9, 10, 12] rfl rfl rfl rfl (by decide) 0 0 ⟨rfl, rfl⟩ 75 rfl (fun v w1 hq72 => ?_)
          obtain ⟨f_a0_72, rfl, rfl, h⟩ := hq72
          refine k_perm C [0, 1, 2, 3, 4, 5, 6, 7, 8, 9, 10, 12, 11] [] ((wdW cI cJ cZ qa0 S_a0 T_a0_59 U_a0_59) ++ (wdO cI cJ cZ qa1 OC_a1 (O_a1.1, f_a0_72, O_a1.2.2))) rfl rfl rfl ?_
          refine k_aload_n C dX6_arrange_75 0 rfl rfl 76 rfl ?_
          refine k_aload_n C dX6_arrange_76 1 rfl rfl 77 rfl ?_
          refine k_iload_n C dX6_arrange_77 2 rfl rfl 78 rfl ?_
          refine k_iconst C dX6_arrange_78 79 rfl ?_
          refine k_iload C dX6_arrange_79 4 rfl 81 rfl ?_
          refine k_ishl C dX6_arrange_81 82 rfl ?_
          refine k_iconst C dX6_arrange_82 83 rfl ?_
          refine k_ixor C dX6_arrange_83 84 rfl ?_
          refine k_iand C dX6_arrange_84 85 rfl ?_
          refine k_iload_n C dX6_arrange_85 3 rfl rfl 86 rfl ?_
          refine k_iconst C dX6_arrange_86 87 rfl ?_
          refine k_iadd C dX6_arrange_87 88 rfl ?_
          have hM := hREC S_a0 T_a0_59 U_a0_59 OC_a1 (O_a1.1, f_a0_72, O_a1.2.2) (iand x2 (ixor (ishl 1 x4) (-1))) (x3 + 1) _ h
          refine k_callS C dX6_arrange_88 hM gX6_arrange_X6_arrange rfl sg_X6_arrange rfl (Nat.le_of_ble_eq_true rfl) ⟨⟨rfl, rfl⟩, by simp only [rm_X6_arrange, rm_X6_arrange]; omega, by simp only [rm_X6_arrange, rm_X6_arrange]; omega⟩ ⟨Nat.le_refl 0, Nat.le_refl 0⟩ [0, 1, 2, 3, 4, 5, 6, 7, 8, 9, 10, 11, 12] [] rfl rfl rfl rfl (by decide) 0 0 ⟨rfl, rfl⟩ 91 rfl (fun v w1 hq88 => ?_)
          obtain ⟨T_a0_88, U_a0_88, O_a1_88, rfl, rfl, h⟩ := hq88
          refine k_perm C [0, 1, 2, 3, 4, 5, 6, 7, 8, 9, 10, 11, 12] [] ((wdW cI cJ cZ qa0 S_a0 T_a0_88 U_a0_88) ++ (wdO cI cJ cZ qa1 OC_a1 O_a1_88)) rfl rfl rfl ?_
          refine k_aload_n C dX6_arrange_91 0 rfl rfl 92 rfl ?_
          refine k_iload C dX6_arrange_92 4 rfl 94 rfl ?_
          have hM := c_X5_lift (l := l) (D := D) (cI := cI) (cJ := cJ) (cZ := cZ) qa0 S_a0 T_a0_88 U_a0_88 x4 _ h
          refine k_callV C dX6_arrange_94 hM gX6_arrange_X5_lift rfl sg_X5_lift 5 rfl rfl rfl (Nat.le_of_ble_eq_true rfl) ⟨⟨rfl, rfl⟩, by simp only [rm_X6_arrange, rm_X5_lift]; omega, by simp only [rm_X6_arrange, rm_X5_lift]; omega⟩ ⟨Nat.le_refl 0, Nat.le_refl 0⟩ [0, 1, 2, 3, 4, 5, 6, 7, 8] [9, 10, 11, 12] rfl rfl rfl rfl (by decide) 0 0 ⟨rfl, rfl⟩ 97 rfl (fun v w1 hq94 => ?_)
          obtain ⟨T_a0_94, rfl, rfl, h⟩ := hq94
          refine k_perm C [4, 5, 6, 7, 8, 9, 10, 11, 12, 0, 1, 2, 3] [] ((wdW cI cJ cZ qa0 S_a0 T_a0_94 U_a0_88) ++ (wdO cI cJ cZ qa1 OC_a1 O_a1_88)) rfl rfl rfl ?_
          refine k_iinc (j := 4) C dX6_arrange_97 rfl (by decide) [(4, .int (iI (x4 + 1))), (0, .ref (qa0 0)), (1, .ref (qa1 0)), (2, .int (iI x2)), (3, .int (iI x3))] rfl 100 rfl ?_
          refine k_goto C dX6_arrange_100 31 (by decide) ?_
          refine k_lv C [1, 2, 3, 4, 0] [(0, .ref (qa0 0)), (1, .ref (qa1 0)), (2, .int (iI x2)), (3, .int (iI x3)), (4, .int (iI (x4 + 1)))] rfl ?_
          exact ih x2 x3 (x4 + 1) T_a0_94 U_a0_88 O_a1_88 h hK_103
set_option maxHeartbeats 4000000 in
set_option maxRecDepth 20000 in
theorem c_X6_arrange {l : Launch} {D : va_G} {cI cJ cZ : ClassId} (d : Nat) (qa0 : Nat → Nat) (qa1 : Nat → Nat) (S_a0 : gWS) (T_a0 : gWT) (U_a0 : gWU) (OC_a1 : gOOC) (O_a1 : gOO) (x2 : Int) (x3 : Int) (Q : gWT → gWU → gOO → Prop) (h : wp_X6_arrange d S_a0 T_a0 U_a0 OC_a1 O_a1 x2 x3 Q) : KM l D (kT cI cJ cZ) 0 0 yX6_arrange wsX6_arrange (rm_X6_arrange d) [.ref (qa0 0), .ref (qa1 0), .int (iI x2), .int (iI x3)] ((wdW cI cJ cZ qa0 S_a0 T_a0 U_a0) ++ (wdO cI cJ cZ qa1 OC_a1 O_a1)) (rp_X6_arrange cI cJ cZ qa0 qa1 S_a0 OC_a1 Q) := by
  induction d generalizing S_a0 T_a0 U_a0 OC_a1 O_a1 x2 x3 Q with
  | zero => exact h.elim
  | succ d ihd =>
  have hREC := ihd
  have h : wpb_X6_arrange (wp_X6_arrange d) S_a0 T_a0 U_a0 OC_a1 O_a1 x2 x3 Q := h
  refine KM_intro (lv := [(0, .ref (qa0 0)), (1, .ref (qa1 0)), (2, .int (iI x2)), (3, .int (iI x3))]) false rfl (by decide) (Nat.le_of_ble_eq_true rfl) rfl (fun h => absurd h (by decide)) (fun v ws hq => by obtain ⟨T_a0, U_a0, O_a1, rfl, rfl, _⟩ := hq; exact Or.inl ⟨rfl, rfl⟩) (fun A K C => ?_)
  refine k_aload_n C dX6_arrange_0 0 rfl rfl 1 rfl ?_
  refine k_ifnull C dX6_arrange_1 4 rfl ?_
  refine k_aload_n C dX6_arrange_4 1 rfl rfl 5 rfl ?_
  refine k_ifnull C dX6_arrange_5 8 rfl ?_
  refine k_iload_n C dX6_arrange_8 3 rfl rfl 9 rfl ?_
  obtain ⟨hr9a, h⟩ := h
  obtain ⟨ht, hf⟩ := h
  refine k_if_lt C dX6_arrange_9 hr9a 18 12 (by decide) rfl (fun hc9 => ?_) (fun hc9 => ?_)
  · have h := ht hc9; clear ht hf
    exact k_vret C dX6_arrange_18 ⟨T_a0, U_a0, O_a1, rfl, rfl, h⟩
  · have h := hf hc9; clear ht hf
    refine k_iload_n C dX6_arrange_12 3 rfl rfl 13 rfl ?_
    refine k_bipush C dX6_arrange_13 (by decide) 15 rfl ?_
    obtain ⟨ht, hf⟩ := h
    refine k_icmp_le C dX6_arrange_15 ⟨hr9a, (by decide)⟩ 19 18 (by decide) rfl (fun hc15 => ?_) (fun hc15 => ?_)
    · have h := ht hc15; clear ht hf
      refine k_iload_n C dX6_arrange_19 2 rfl rfl 20 rfl ?_
      obtain ⟨hr20a, h⟩ := h
      obtain ⟨ht, hf⟩ := h
      refine k_if_ne C dX6_arrange_20 hr20a 28 23 (by decide) rfl (fun hc20 => ?_) (fun hc20 => ?_)
      · have h := ht hc20; clear ht hf
        refine k_iconst C dX6_arrange_28 29 rfl ?_
        refine k_istore C dX6_arrange_29 (by decide) [(4, .int (iI 0)), (0, .ref (qa0 0)), (1, .ref (qa1 0)), (2, .int (iI x2)), (3, .int (iI x3))] rfl 31 rfl ?_
        refine k_lv C [1, 2, 3, 4, 0] [(0, .ref (qa0 0)), (1, .ref (qa1 0)), (2, .int (iI x2)), (3, .int (iI x3)), (4, .int (iI 0))] rfl ?_
        obtain ⟨m31, h⟩ := h
        refine w_X6_arrange_31 C hREC m31 x2 x3 0 T_a0 U_a0 O_a1 h (fun T_a0 U_a0 O_a1 h => ?_)
        · exact k_vret C dX6_arrange_103 ⟨T_a0, U_a0, O_a1, rfl, rfl, h⟩
      · have h := hf hc20; clear ht hf
        refine k_aload_n C dX6_arrange_23 1 rfl rfl 24 rfl ?_
        have hM := c_X1_add (l := l) (D := D) (cI := cI) (cJ := cJ) (cZ := cZ) qa1 OC_a1 O_a1 _ h
        refine k_callV C dX6_arrange_24 hM gX6_arrange_X1_add rfl sg_X1_add 1 rfl rfl rfl (Nat.le_of_ble_eq_true rfl) ⟨⟨rfl, rfl⟩, by simp only [rm_X6_arrange, rm_X1_add]; omega, by simp only [rm_X6_arrange, rm_X1_add]; omega⟩ ⟨Nat.le_refl 0, Nat.le_refl 0⟩ [9, 10, 11, 12] [0, 1, 2, 3, 4, 5, 6, 7, 8] rfl rfl rfl rfl (by decide) 0 0 ⟨rfl, rfl⟩ 27 rfl (fun v w1 hq24 => ?_)
        obtain ⟨O_a1_24, rfl, rfl, h⟩ := hq24
        refine k_perm C [0, 1, 2, 3, 4, 5, 6, 7, 8, 9, 10, 11, 12] [] ((wdW cI cJ cZ qa0 S_a0 T_a0 U_a0) ++ (wdO cI cJ cZ qa1 OC_a1 O_a1_24)) rfl rfl rfl ?_
        exact k_vret C dX6_arrange_27 ⟨T_a0, U_a0, O_a1_24, rfl, rfl, h⟩
    · have h := hf hc15; clear ht hf
      exact k_vret C dX6_arrange_18 ⟨T_a0, U_a0, O_a1, rfl, rfl, h⟩

/-! X6_guestsWhoPut -/
abbrev rm_X6_guestsWhoPut : Room := { frames := 2, cells := 0, slots := 0, locals := 43 }
theorem sg_X6_guestsWhoPut : yX6_guestsWhoPut.cls ≠ "java/lang/invoke/MethodHandle" ∧ yX6_guestsWhoPut.cls ≠ "java/lang/invoke/VarHandle" ∧ (parseMethodDescriptor yX6_guestsWhoPut.desc).map (fun d => d.parameters.length) = some 0 := by decide +kernel
theorem hin_X6_guestsWhoPut_6 : ∀ w ∈ wsX60, w ∈ wsX6_guestsWhoPut := fun _ h => List.mem_cons_of_mem _ (List.mem_append_left _ (List.mem_append_right _ h))
def rp_X6_guestsWhoPut (cI cJ cZ : ClassId) (qh : Nat → Nat) (qn : Nat → Nat) (qr : Nat → Nat) (qs : Nat → Nat) (qp : Nat → Nat) (qi : Nat → Nat) (qj : Nat → Nat) (qw : Nat → Nat) (qo : Nat → Nat) (P_p : gPP) (Q : Int → Prop) : Option Value → va_W → Prop := fun v w1 => ∃ (r : Int), v = some (.int (iI r)) ∧ w1 = (wdX cI cJ cZ qh qn qr qs qp qi qj qw qo ) ++ (wdP cI cJ cZ qp P_p) ∧ Q r
def wp_X6_guestsWhoPut_12 (P_p : gPP) (K_48 : Prop) (K_62 : Int → Prop)  (Q : Int → Prop) : Nat → Int → Int → Int → Prop
  | 0, _, _, _ => False
  | n12 + 1, x1, x2, x3 =>
    rI x3 ∧ rI x2 ∧ ((x2 ≤ x3 → K_62 x1) ∧ (¬ (x2 ≤ x3) → wp_X2_guestOf P_p x3 (fun (r23 : Int) => wp_X2_columnOf P_p x3 (fun (r34 : Int) => rI r34 ∧ ((r34 = (-1) → K_48 ) ∧ (¬ (r34 = (-1)) → rI (iand x1 (ishl 1 r23)) ∧ (((iand x1 (ishl 1 r23)) = 0 → wp_X6_guestsWhoPut_12 P_p K_48 K_62 Q n12 (ior x1 (ishl 1 r23)) x2 (x3 + 1)) ∧ (¬ ((iand x1 (ishl 1 r23)) = 0) → K_48 ))))))))
def wp_X6_guestsWhoPut (P_p : gPP) (Q : Int → Prop) : Prop :=
    wp_X2_acts P_p (fun (r6 : Int) => ∃ m12, wp_X6_guestsWhoPut_12 P_p (Q (-5)) (fun (x1 : Int) => Q x1) Q m12 0 r6 0)
set_option maxHeartbeats 4000000 in
set_option maxRecDepth 20000 in
theorem w_X6_guestsWhoPut_12 {l : Launch} {D : va_G} {cI cJ cZ : ClassId} {A : Nat → Prop} {K : KT} {qh : Nat → Nat} {qn : Nat → Nat} {qr : Nat → Nat} {qs : Nat → Nat} {qp : Nat → Nat} {qi : Nat → Nat} {qj : Nat → Nat} {qw : Nat → Nat} {qo : Nat → Nat} {P_p : gPP} {Q : Int → Prop} {K_48 : Prop} {K_62 : Int → Prop} (C : KC cX6_guestsWhoPut yX6_guestsWhoPut.cls wsX6_guestsWhoPut rm_X6_guestsWhoPut 5 D (kT cI cJ cZ) A l false (rp_X6_guestsWhoPut cI cJ cZ qh qn qr qs qp qi qj qw qo P_p Q) 0 0 K) : ∀ (n : Nat) (x1 : Int) (x2 : Int) (x3 : Int), wp_X6_guestsWhoPut_12 P_p K_48 K_62 Q n x1 x2 x3 → (∀ (_ : Unit), K_48  → K 0 0 48 [] [] ((wdX cI cJ cZ qh qn qr qs qp qi qj qw qo ) ++ (wdP cI cJ cZ qp P_p))) → (∀ (x1 : Int), K_62 x1 → K 0 0 62 [(1, .int (iI x1))] [] ((wdX cI cJ cZ qh qn qr qs qp qi qj qw qo ) ++ (wdP cI cJ cZ qp P_p))) → K 0 0 12 [(0, .ref (qh 0)), (1, .int (iI x1)), (2, .int (iI x2)), (3, .int (iI x3))] [] ((wdX cI cJ cZ qh qn qr qs qp qi qj qw qo ) ++ (wdP cI cJ cZ qp P_p)) := by
  intro n
  induction n with
  | zero => intro x1 x2 x3 h; exact h.elim
  | succ n ih =>
    intro x1 x2 x3 h hK_48 hK_62
    refine k_iload_n C dX6_guestsWhoPut_12 3 rfl rfl 13 rfl ?_
    refine k_iload_n C dX6_guestsWhoPut_13 2 rfl rfl 14 rfl ?_
    obtain ⟨hr14a, hr14b, h⟩ := h
    obtain ⟨ht, hf⟩ := h
    refine k_icmp_ge C dX6_guestsWhoPut_14 ⟨hr14a, hr14b⟩ 62 17 (by decide) rfl (fun hc14 => ?_) (fun hc14 => ?_)
    · have h := ht hc14; clear ht hf
      refine k_lv C [1] [(1, .int (iI x1))] rfl ?_
      exact hK_62 x1 h
    · have h := hf hc14; clear ht hf
      refine k_iconst C dX6_guestsWhoPut_17 18 rfl ?_
      refine k_aload_n C dX6_guestsWhoPut_18 0 rfl rfl 19 rfl ?_
      refine k_get C dX6_guestsWhoPut_19 0 rfl (ci := 6) rfl hin_X6_guestsWhoPut_6 3 (by decide) (List.mem_of_getElem? (i := 1) rfl) rfl 22 rfl ?_
      refine k_iload_n C dX6_guestsWhoPut_22 3 rfl rfl 23 rfl ?_
      have hM := c_X2_guestOf (l := l) (D := D) (cI := cI) (cJ := cJ) (cZ := cZ) qp P_p x3 _ h
      refine k_callV C dX6_guestsWhoPut_23 hM gX6_guestsWhoPut_X2_guestOf rfl sg_X2_guestOf 2 rfl rfl rfl (Nat.le_of_ble_eq_true rfl) ⟨⟨rfl, rfl⟩, by decide, by decide⟩ ⟨Nat.le_refl 0, Nat.le_refl 0⟩ [1, 2] [0] rfl rfl rfl rfl (by decide) 0 0 ⟨rfl, rfl⟩ 26 rfl (fun v w1 hq23 => ?_)
      obtain ⟨r23, rfl, rfl, h⟩ := hq23
      refine k_perm C [0, 1, 2] [.int (iI r23), .int (iI 1)] ((wdX cI cJ cZ qh qn qr qs qp qi qj qw qo ) ++ (wdP cI cJ cZ qp P_p)) rfl rfl rfl ?_
      refine k_ishl C dX6_guestsWhoPut_26 27 rfl ?_
      refine k_istore C dX6_guestsWhoPut_27 (by decide) [(4, .int (iI (ishl 1 r23))), (0, .ref (qh 0)), (1, .int (iI x1)), (2, .int (iI x2)), (3, .int (iI x3))] rfl 29 rfl ?_
      refine k_aload_n C dX6_guestsWhoPut_29 1 rfl rfl 30 rfl ?_
      refine k_get C dX6_guestsWhoPut_30 0 rfl (ci := 6) rfl hin_X6_guestsWhoPut_6 3 (by decide) (List.mem_of_getElem? (i := 1) rfl) rfl 33 rfl ?_
      refine k_iload_n C dX6_guestsWhoPut_33 4 rfl rfl 34 rfl ?_
      have hM := c_X2_columnOf (l := l) (D := D) (cI := cI) (cJ := cJ) (cZ := cZ) qp P_p x3 _ h
      refine k_callV C dX6_guestsWhoPut_34 hM gX6_guestsWhoPut_X2_columnOf rfl sg_X2_columnOf 2 rfl rfl rfl (Nat.le_of_ble_eq_true rfl) ⟨⟨rfl, rfl⟩, by decide, by decide⟩ ⟨Nat.le_refl 0, Nat.le_refl 0⟩ [1, 2] [0] rfl rfl rfl rfl (by decide) 0 0 ⟨rfl, rfl⟩ 37 rfl (fun v w1 hq34 => ?_)
      obtain ⟨r34, rfl, rfl, h⟩ := hq34
      refine k_perm C [0, 1, 2] [.int (iI r34)] ((wdX cI cJ cZ qh qn qr qs qp qi qj qw qo ) ++ (wdP cI cJ cZ qp P_p)) rfl rfl rfl ?_
      refine k_iconst C dX6_guestsWhoPut_37 38 rfl ?_
      obtain ⟨hr38a, h⟩ := h
      obtain ⟨ht, hf⟩ := h
      refine k_icmp_eq C dX6_guestsWhoPut_38 ⟨hr38a, (by decide)⟩ 48 41 (by decide) rfl (fun hc38 => ?_) (fun hc38 => ?_)
      · have h := ht hc38; clear ht hf
        refine k_lv C [] [] rfl ?_
        exact hK_48 () h
      · have h := hf hc38; clear ht hf
        refine k_iload_n C dX6_guestsWhoPut_41 2 rfl rfl 42 rfl ?_
        refine k_iload C dX6_guestsWhoPut_42 0 rfl 44 rfl ?_
        refine k_iand C dX6_guestsWhoPut_44 45 rfl ?_
        obtain ⟨hr45a, h⟩ := h
        obtain ⟨ht, hf⟩ := h
        refine k_if_eq C dX6_guestsWhoPut_45 hr45a 51 48 (by decide) rfl (fun hc45 => ?_) (fun hc45 => ?_)
        · have h := ht hc45; clear ht hf
          refine k_iload_n C dX6_guestsWhoPut_51 2 rfl rfl 52 rfl ?_
          refine k_iload C dX6_guestsWhoPut_52 0 rfl 54 rfl ?_
          refine k_ior C dX6_guestsWhoPut_54 55 rfl ?_
          refine k_istore_n C dX6_guestsWhoPut_55 rfl (by decide) [(1, .int (iI (ior x1 (ishl 1 r23)))), (4, .int (iI (ishl 1 r23))), (0, .ref (qh 0)), (2, .int (iI x2)), (3, .int (iI x3))] rfl 56 rfl ?_
          refine k_iinc (j := 4) C dX6_guestsWhoPut_56 rfl (by decide) [(3, .int (iI (x3 + 1))), (1, .int (iI (ior x1 (ishl 1 r23)))), (4, .int (iI (ishl 1 r23))), (0, .ref (qh 0)), (2, .int (iI x2))] rfl 59 rfl ?_
          refine k_goto C dX6_guestsWhoPut_59 12 (by decide) ?_
          refine k_lv C [3, 1, 4, 0] [(0, .ref (qh 0)), (1, .int (iI (ior x1 (ishl 1 r23)))), (2, .int (iI x2)), (3, .int (iI (x3 + 1)))] rfl ?_
          exact ih (ior x1 (ishl 1 r23)) x2 (x3 + 1) h hK_48 hK_62
        · have h := hf hc45; clear ht hf
          refine k_lv C [] [] rfl ?_
          exact hK_48 () h
set_option maxHeartbeats 4000000 in
set_option maxRecDepth 20000 in
theorem c_X6_guestsWhoPut {l : Launch} {D : va_G} {cI cJ cZ : ClassId} (qh : Nat → Nat) (qn : Nat → Nat) (qr : Nat → Nat) (qs : Nat → Nat) (qp : Nat → Nat) (qi : Nat → Nat) (qj : Nat → Nat) (qw : Nat → Nat) (qo : Nat → Nat) (P_p : gPP) (Q : Int → Prop) (h : wp_X6_guestsWhoPut P_p Q) : KM l D (kT cI cJ cZ) 0 0 yX6_guestsWhoPut wsX6_guestsWhoPut rm_X6_guestsWhoPut [.ref (qh 0)] ((wdX cI cJ cZ qh qn qr qs qp qi qj qw qo ) ++ (wdP cI cJ cZ qp P_p)) (rp_X6_guestsWhoPut cI cJ cZ qh qn qr qs qp qi qj qw qo P_p Q) := by
  refine KM_intro (lv := [(0, .ref (qh 0))]) false rfl (by decide) (Nat.le_of_ble_eq_true rfl) rfl (fun h => absurd h (by decide)) (fun v ws hq => by obtain ⟨r, rfl, rfl, _⟩ := hq; exact Or.inr (Or.inl ⟨rfl, _, rfl⟩)) (fun A K C => ?_)
  refine k_iconst C dX6_guestsWhoPut_0 1 rfl ?_
  refine k_istore_n C dX6_guestsWhoPut_1 rfl (by decide) [(1, .int (iI 0)), (0, .ref (qh 0))] rfl 2 rfl ?_
  refine k_aload_n C dX6_guestsWhoPut_2 1 rfl rfl 3 rfl ?_
  refine k_get C dX6_guestsWhoPut_3 0 rfl (ci := 6) rfl hin_X6_guestsWhoPut_6 3 (by decide) (List.mem_of_getElem? (i := 1) rfl) rfl 6 rfl ?_
  have hM := c_X2_acts (l := l) (D := D) (cI := cI) (cJ := cJ) (cZ := cZ) qp P_p _ h
  refine k_callV C dX6_guestsWhoPut_6 hM gX6_guestsWhoPut_X2_acts rfl sg_X2_acts 2 rfl rfl rfl (Nat.le_of_ble_eq_true rfl) ⟨⟨rfl, rfl⟩, by decide, by decide⟩ ⟨Nat.le_refl 0, Nat.le_refl 0⟩ [1, 2] [0] rfl rfl rfl rfl (by decide) 0 0 ⟨rfl, rfl⟩ 9 rfl (fun v w1 hq6 => ?_)
  obtain ⟨r6, rfl, rfl, h⟩ := hq6
  refine k_perm C [0, 1, 2] [.int (iI r6)] ((wdX cI cJ cZ qh qn qr qs qp qi qj qw qo ) ++ (wdP cI cJ cZ qp P_p)) rfl rfl rfl ?_
  refine k_istore_n C dX6_guestsWhoPut_9 rfl (by decide) [(2, .int (iI r6)), (1, .int (iI 0)), (0, .ref (qh 0))] rfl 10 rfl ?_
  refine k_iconst C dX6_guestsWhoPut_10 11 rfl ?_
  refine k_istore_n C dX6_guestsWhoPut_11 rfl (by decide) [(3, .int (iI 0)), (2, .int (iI r6)), (1, .int (iI 0)), (0, .ref (qh 0))] rfl 12 rfl ?_
  refine k_lv C [3, 2, 1, 0] [(0, .ref (qh 0)), (1, .int (iI 0)), (2, .int (iI r6)), (3, .int (iI 0))] rfl ?_
  obtain ⟨m12, h⟩ := h
  refine w_X6_guestsWhoPut_12 C m12 0 r6 0 h (fun _ h => ?_) (fun x1 h => ?_)
  · refine k_bipush C dX6_guestsWhoPut_48 (by decide) 50 rfl ?_
    exact k_iret C dX6_guestsWhoPut_50 ⟨(-5), rfl, rfl, h⟩
  · refine k_iload_n C dX6_guestsWhoPut_62 0 rfl rfl 63 rfl ?_
    exact k_iret C dX6_guestsWhoPut_63 ⟨x1, rfl, rfl, h⟩

/-! X6_orders -/
abbrev rm_X6_orders : Room := { frames := 13, cells := 0, slots := 0, locals := 348 }
theorem sg_X6_orders : yX6_orders.cls ≠ "java/lang/invoke/MethodHandle" ∧ yX6_orders.cls ≠ "java/lang/invoke/VarHandle" ∧ (parseMethodDescriptor yX6_orders.desc).map (fun d => d.parameters.length) = some 1 := by decide +kernel
theorem hin_X6_orders_1 : ∀ w ∈ wsX10, w ∈ wsX6_orders := fun _ h => List.mem_cons_of_mem _ (List.mem_append_left _ (List.mem_append_right _ h))
theorem hin_X6_orders_5 : ∀ w ∈ wsX50, w ∈ wsX6_orders := fun _ h => List.mem_cons_of_mem _ (List.mem_append_left _ (List.mem_append_left _ (List.mem_append_right _ h)))
theorem hin_X6_orders_6 : ∀ w ∈ wsX60, w ∈ wsX6_orders := fun _ h => List.mem_cons_of_mem _ (List.mem_append_left _ (List.mem_append_left _ (List.mem_append_left _ (List.mem_append_right _ h))))
def rp_X6_orders (cI cJ cZ : ClassId) (qh : Nat → Nat) (qn : Nat → Nat) (qr : Nat → Nat) (qs : Nat → Nat) (qp : Nat → Nat) (qi : Nat → Nat) (qj : Nat → Nat) (qw : Nat → Nat) (qo : Nat → Nat) (S_n : gWS) (T_n : gWT) (U_n : gWU) (P_p : gPP) (Q : Int → gWS → gWT → gWU → gOOC → gOO → Prop) : Option Value → va_W → Prop := fun v w1 => ∃ (r : Int) (S_r : gWS) (T_r : gWT) (U_r : gWU) (OC_o : gOOC) (O_o : gOO), v = some (.int (iI r)) ∧ w1 = (wdX cI cJ cZ qh qn qr qs qp qi qj qw qo ) ++ (wdW cI cJ cZ qn S_n T_n U_n) ++ (wdW cI cJ cZ qr S_r T_r U_r) ++ (wdP cI cJ cZ qp P_p) ++ (wdO cI cJ cZ qo OC_o O_o) ∧ Q r S_r T_r U_r OC_o O_o
def wp_X6_orders_125  (Q : Int → gWS → gWT → gWU → gOOC → gOO → Prop) (x1 : Int) (s0 : Int) (S_r : gWS) (T_r : gWT) (U_r : gWU) (OC_o : gOOC) (O_o : gOO) : Prop :=
    rI s0 ∧ ((s0 = 0 → Q (-6) S_r T_r U_r OC_o O_o) ∧ (¬ (s0 = 0) → wp_X6_at 6 O_o.2.2 x1 (fun (r140 : Int) => Q r140 S_r T_r U_r OC_o O_o)))
def wp_X6_orders (S_n : gWS) (T_n : gWT) (S_r : gWS) (T_r : gWT) (U_r : gWU) (P_p : gPP) (OC_o : gOOC) (O_o : gOO) (x1 : Int) (Q : Int → gWS → gWT → gWU → gOOC → gOO → Prop) : Prop :=
    wp_X2_firstFault P_p S_n.1 (fun (r11 : Int) => rI r11 ∧ ((r11 = (-6) → wp_X6_guestsWhoPut P_p (fun (r23 : Int) => rI r23 ∧ ((¬ r23 = (-5) → wp_X2_acts P_p (fun (r40 : Int) => rI r40 ∧ ((r40 ≤ 6 → wp_X5_become S_r T_r S_n T_n (fun (S_r_61 : gWS) (T_r_61 : gWT) => wp_X1_start OC_o O_o P_p (fun (OC_o_72 : gOOC) (O_o_72 : gOO) => wp_X6_arrange 8 S_r_61 T_r_61 U_r OC_o_72 O_o_72 r23 0 (fun (T_r_85 : gWT) (U_r_85 : gWU) (O_o_85 : gOO) => rI x1 ∧ ((¬ x1 = (-1) → ((x1 < 0 → wp_X6_orders_125 Q x1 0 S_r_61 T_r_85 U_r_85 OC_o_72 O_o_85) ∧ (¬ (x1 < 0) → ((r40 ≤ x1 → wp_X6_orders_125 Q x1 0 S_r_61 T_r_85 U_r_85 OC_o_72 O_o_85) ∧ (¬ (r40 ≤ x1) → rI O_o_85.1 ∧ ((O_o_85.1 ≤ 0 → wp_X6_orders_125 Q x1 0 S_r_61 T_r_85 U_r_85 OC_o_72 O_o_85) ∧ (¬ (O_o_85.1 ≤ 0) → wp_X6_orders_125 Q x1 1 S_r_61 T_r_85 U_r_85 OC_o_72 O_o_85))))))) ∧ (¬ (¬ x1 = (-1)) → Q O_o_85.1 S_r_61 T_r_85 U_r_85 OC_o_72 O_o_85)))))) ∧ (¬ (r40 ≤ 6) → Q (-4) S_r T_r U_r OC_o O_o)))) ∧ (¬ (¬ r23 = (-5)) → Q (-5) S_r T_r U_r OC_o O_o)))) ∧ (¬ (r11 = (-6)) → Q (-5) S_r T_r U_r OC_o O_o)))
set_option maxHeartbeats 4000000 in
set_option maxRecDepth 20000 in
theorem w_X6_orders_125 {l : Launch} {D : va_G} {cI cJ cZ : ClassId} {A : Nat → Prop} {K : KT} {qh : Nat → Nat} {qn : Nat → Nat} {qr : Nat → Nat} {qs : Nat → Nat} {qp : Nat → Nat} {qi : Nat → Nat} {qj : Nat → Nat} {qw : Nat → Nat} {qo : Nat → Nat} {S_n : gWS} {T_n : gWT} {U_n : gWU} {P_p : gPP} {Q : Int → gWS → gWT → gWU → gOOC → gOO → Prop} (C : KC cX6_orders yX6_orders.cls wsX6_orders rm_X6_orders 5 D (kT cI cJ cZ) A l false (rp_X6_orders cI cJ cZ qh qn qr qs qp qi qj qw qo S_n T_n U_n P_p Q) 0 0 K) : ∀ (x1 : Int) (s0 : Int) (S_r : gWS) (T_r : gWT) (U_r : gWU) (OC_o : gOOC) (O_o : gOO), wp_X6_orders_125 Q x1 s0 S_r T_r U_r OC_o O_o → K 0 0 125 [(0, .ref (qh 0)), (1, .int (iI x1))] [.int (iI s0)] ((wdX cI cJ cZ qh qn qr qs qp qi qj qw qo ) ++ (wdW cI cJ cZ qn S_n T_n U_n) ++ (wdW cI cJ cZ qr S_r T_r U_r) ++ (wdP cI cJ cZ qp P_p) ++ (wdO cI cJ cZ qo OC_o O_o)) := by
  intro x1 s0 S_r T_r U_r OC_o O_o h 
  refine k_istore C dX6_orders_125 (by decide) [(4, .int (iI s0)), (0, .ref (qh 0)), (1, .int (iI x1))] rfl 127 rfl ?_
  refine k_iload C dX6_orders_127 0 rfl 129 rfl ?_
  obtain ⟨hr129a, h⟩ := h
  obtain ⟨ht, hf⟩ := h
  refine k_if_eq C dX6_orders_129 hr129a 146 132 (by decide) rfl (fun hc129 => ?_) (fun hc129 => ?_)
  · have h := ht hc129; clear ht hf
    refine k_bipush C dX6_orders_146 (by decide) 148 rfl ?_
    exact k_iret C dX6_orders_148 ⟨(-6), S_r, T_r, U_r, OC_o, O_o, rfl, rfl, h⟩
  · have h := hf hc129; clear ht hf
    refine k_aload_n C dX6_orders_132 1 rfl rfl 133 rfl ?_
    refine k_get C dX6_orders_133 0 rfl (ci := 6) rfl hin_X6_orders_6 7 (by decide) (List.mem_of_getElem? (i := 4) rfl) rfl 136 rfl ?_
    refine k_getN C dX6_orders_136 21 rfl (ci := 1) rfl hin_X6_orders_1 3 (by decide) (List.mem_of_getElem? (i := 30) rfl) rfl 139 rfl ?_
    refine k_iload_n C dX6_orders_139 2 rfl rfl 140 rfl ?_
    have hM := c_X6_at (l := l) (D := D) (cI := cI) (cJ := cJ) (cZ := cZ) (qo 3) 6 (by decide) O_o.2.2 x1 _ h
    refine k_callS C dX6_orders_140 hM gX6_orders_X6_at rfl sg_X6_at rfl (Nat.le_of_ble_eq_true rfl) ⟨⟨rfl, rfl⟩, by decide, by decide⟩ ⟨Nat.le_refl 0, Nat.le_refl 0⟩ [24] [0, 1, 2, 3, 4, 5, 6, 7, 8, 9, 10, 11, 12, 13, 14, 15, 16, 17, 18, 19, 20, 21, 22, 23] rfl rfl rfl rfl (by decide) 0 0 ⟨rfl, rfl⟩ 143 rfl (fun v w1 hq140 => ?_)
    obtain ⟨r140, rfl, rfl, h⟩ := hq140
    refine k_perm C [0, 1, 2, 3, 4, 5, 6, 7, 8, 9, 10, 11, 12, 13, 14, 15, 16, 17, 18, 19, 20, 21, 22, 23, 24] [.int (iI r140)] ((wdX cI cJ cZ qh qn qr qs qp qi qj qw qo ) ++ (wdW cI cJ cZ qn S_n T_n U_n) ++ (wdW cI cJ cZ qr S_r T_r U_r) ++ (wdP cI cJ cZ qp P_p) ++ (wdO cI cJ cZ qo OC_o O_o)) rfl rfl rfl ?_
    refine k_goto C dX6_orders_143 148 (by decide) ?_
    exact k_iret C dX6_orders_148 ⟨r140, S_r, T_r, U_r, OC_o, O_o, rfl, rfl, h⟩
set_option maxHeartbeats 4000000 in
set_option maxRecDepth 20000 in
theorem c_X6_orders {l : Launch} {D : va_G} {cI cJ cZ : ClassId} (qh : Nat → Nat) (qn : Nat → Nat) (qr : Nat → Nat) (qs : Nat → Nat) (qp : Nat → Nat) (qi : Nat → Nat) (qj : Nat → Nat) (qw : Nat → Nat) (qo : Nat → Nat) (S_n : gWS) (T_n : gWT) (U_n : gWU) (S_r : gWS) (T_r : gWT) (U_r : gWU) (P_p : gPP) (OC_o : gOOC) (O_o : gOO) (x1 : Int) (Q : Int → gWS → gWT → gWU → gOOC → gOO → Prop) (h : wp_X6_orders S_n T_n S_r T_r U_r P_p OC_o O_o x1 Q) : KM l D (kT cI cJ cZ) 0 0 yX6_orders wsX6_orders rm_X6_orders [.ref (qh 0), .int (iI x1)] ((wdX cI cJ cZ qh qn qr qs qp qi qj qw qo ) ++ (wdW cI cJ cZ qn S_n T_n U_n) ++ (wdW cI cJ cZ qr S_r T_r U_r) ++ (wdP cI cJ cZ qp P_p) ++ (wdO cI cJ cZ qo OC_o O_o)) (rp_X6_orders cI cJ cZ qh qn qr qs qp qi qj qw qo S_n T_n U_n P_p Q) := by
  refine KM_intro (lv := [(0, .ref (qh 0)), (1, .int (iI x1))]) false rfl (by decide) (Nat.le_of_ble_eq_true rfl) rfl (fun h => absurd h (by decide)) (fun v ws hq => by obtain ⟨r, S_r, T_r, U_r, OC_o, O_o, rfl, rfl, _⟩ := hq; exact Or.inr (Or.inl ⟨rfl, _, rfl⟩)) (fun A K C => ?_)
  refine k_aload_n C dX6_orders_0 0 rfl rfl 1 rfl ?_
  refine k_get C dX6_orders_1 0 rfl (ci := 6) rfl hin_X6_orders_6 3 (by decide) (List.mem_of_getElem? (i := 1) rfl) rfl 4 rfl ?_
  refine k_aload_n C dX6_orders_4 0 rfl rfl 5 rfl ?_
  refine k_get C dX6_orders_5 0 rfl (ci := 6) rfl hin_X6_orders_6 0 (by decide) (List.mem_of_getElem? (i := 2) rfl) rfl 8 rfl ?_
  refine k_getN C dX6_orders_8 1 rfl (ci := 5) rfl hin_X6_orders_5 0 (by decide) (List.mem_of_getElem? (i := 1) rfl) rfl 11 rfl ?_
  have hM := c_X2_firstFault (l := l) (D := D) (cI := cI) (cJ := cJ) (cZ := cZ) qp P_p S_n.1 _ h
  refine k_callV C dX6_orders_11 hM gX6_orders_X2_firstFault rfl sg_X2_firstFault 2 rfl rfl rfl (Nat.le_of_ble_eq_true rfl) ⟨⟨rfl, rfl⟩, by decide, by decide⟩ ⟨Nat.le_refl 0, Nat.le_refl 0⟩ [19, 20] [0, 1, 2, 3, 4, 5, 6, 7, 8, 9, 10, 11, 12, 13, 14, 15, 16, 17, 18, 21, 22, 23, 24] rfl rfl rfl rfl (by decide) 0 0 ⟨rfl, rfl⟩ 14 rfl (fun v w1 hq11 => ?_)
  obtain ⟨r11, rfl, rfl, h⟩ := hq11
  refine k_perm C [0, 1, 2, 3, 4, 5, 6, 7, 8, 9, 10, 11, 12, 13, 14, 15, 16, 17, 18, 23, 24, 19, 20, 21, 22] [.int (iI r11)] ((wdX cI cJ cZ qh qn qr qs qp qi qj qw qo ) ++ (wdW cI cJ cZ qn S_n T_n U_n) ++ (wdW cI cJ cZ qr S_r T_r U_r) ++ (wdP cI cJ cZ qp P_p) ++ (wdO cI cJ cZ qo OC_o O_o)) rfl rfl rfl ?_
  refine k_bipush C dX6_orders_14 (by decide) 16 rfl ?_
  obtain ⟨hr16a, h⟩ := h
  obtain ⟨ht, hf⟩ := h
  refine k_icmp_eq C dX6_orders_16 ⟨hr16a, (by decide)⟩ 22 19 (by decide) rfl (fun hc16 => ?_) (fun hc16 => ?_)
  · have h := ht hc16; clear ht hf
    refine k_aload_n C dX6_orders_22 0 rfl rfl 23 rfl ?_
    have hM := c_X6_guestsWhoPut (l := l) (D := D) (cI := cI) (cJ := cJ) (cZ := cZ) qh qn qr qs qp qi qj qw qo P_p _ h
    refine k_callV C dX6_orders_23 hM gX6_orders_X6_guestsWhoPut rfl sg_X6_guestsWhoPut 6 rfl rfl rfl (Nat.le_of_ble_eq_true rfl) ⟨⟨rfl, rfl⟩, by decide, by decide⟩ ⟨Nat.le_refl 0, Nat.le_refl 0⟩ [0, 19, 20] [1, 2, 3, 4, 5, 6, 7, 8, 9, 10, 11, 12, 13, 14, 15, 16, 17, 18, 21, 22, 23, 24] rfl rfl rfl rfl (by decide) 0 0 ⟨rfl, rfl⟩ 26 rfl (fun v w1 hq23 => ?_)
    obtain ⟨r23, rfl, rfl, h⟩ := hq23
    refine k_perm C [22, 0, 1, 2, 3, 4, 5, 6, 7, 8, 9, 10, 11, 12, 13, 14, 15, 16, 17, 23, 24, 18, 19, 20, 21] [.int (iI r23)] ((wdX cI cJ cZ qh qn qr qs qp qi qj qw qo ) ++ (wdW cI cJ cZ qn S_n T_n U_n) ++ (wdW cI cJ cZ qr S_r T_r U_r) ++ (wdP cI cJ cZ qp P_p) ++ (wdO cI cJ cZ qo OC_o O_o)) rfl rfl rfl ?_
    refine k_istore_n C dX6_orders_26 rfl (by decide) [(2, .int (iI r23)), (0, .ref (qh 0)), (1, .int (iI x1))] rfl 27 rfl ?_
    refine k_iload_n C dX6_orders_27 0 rfl rfl 28 rfl ?_
    refine k_bipush C dX6_orders_28 (by decide) 30 rfl ?_
    obtain ⟨hr30a, h⟩ := h
    obtain ⟨ht, hf⟩ := h
    refine k_icmp_ne C dX6_orders_30 ⟨hr30a, (by decide)⟩ 36 33 (by decide) rfl (fun hc30 => ?_) (fun hc30 => ?_)
    · have h := ht hc30; clear ht hf
      refine k_aload_n C dX6_orders_36 1 rfl rfl 37 rfl ?_
      refine k_get C dX6_orders_37 0 rfl (ci := 6) rfl hin_X6_orders_6 3 (by decide) (List.mem_of_getElem? (i := 1) rfl) rfl 40 rfl ?_
      have hM := c_X2_acts (l := l) (D := D) (cI := cI) (cJ := cJ) (cZ := cZ) qp P_p _ h
      refine k_callV C dX6_orders_40 hM gX6_orders_X2_acts rfl sg_X2_acts 2 rfl rfl rfl (Nat.le_of_ble_eq_true rfl) ⟨⟨rfl, rfl⟩, by decide, by decide⟩ ⟨Nat.le_refl 0, Nat.le_refl 0⟩ [19, 20] [0, 1, 2, 3, 4, 5, 6, 7, 8, 9, 10, 11, 12, 13, 14, 15, 16, 17, 18, 21, 22, 23, 24] rfl rfl rfl rfl (by decide) 0 0 ⟨rfl, rfl⟩ 43 rfl (fun v w1 hq40 => ?_)
      obtain ⟨r40, rfl, rfl, h⟩ := hq40
      refine k_perm C [0, 1, 2, 3, 4, 5, 6, 7, 8, 9, 10, 11, 12, 13, 14, 15, 16, 17, 18, 23, 24, 19, 20, 21, 22] [.int (iI r40)] ((wdX cI cJ cZ qh qn qr qs qp qi qj qw qo ) ++ (wdW cI cJ cZ qn S_n T_n U_n) ++ (wdW cI cJ cZ qr S_r T_r U_r) ++ (wdP cI cJ cZ qp P_p) ++ (wdO cI cJ cZ qo OC_o O_o)) rfl rfl rfl ?_
      refine k_istore_n C dX6_orders_43 rfl (by decide) [(3, .int (iI r40)), (2, .int (iI r23)), (0, .ref (qh 0)), (1, .int (iI x1))] rfl 44 rfl ?_
      refine k_iload_n C dX6_orders_44 0 rfl rfl 45 rfl ?_
      refine k_bipush C dX6_orders_45 (by decide) 47 rfl ?_
      obtain ⟨hr47a, h⟩ := h
      obtain ⟨ht, hf⟩ := h
      refine k_icmp_le C dX6_orders_47 ⟨hr47a, (by decide)⟩ 53 50 (by decide) rfl (fun hc47 => ?_) (fun hc47 => ?_)
      · have h := ht hc47; clear ht hf
        refine k_aload_n C dX6_orders_53 2 rfl rfl 54 rfl ?_
        refine k_get C dX6_orders_54 0 rfl (ci := 6) rfl hin_X6_orders_6 1 (by decide) (List.mem_of_getElem? (i := 3) rfl) rfl 57 rfl ?_
        refine k_aload_n C dX6_orders_57 2 rfl rfl 58 rfl ?_
        refine k_get C dX6_orders_58 0 rfl (ci := 6) rfl hin_X6_orders_6 0 (by decide) (List.mem_of_getElem? (i := 2) rfl) rfl 61 rfl ?_
        have hM := c_X5_become (l := l) (D := D) (cI := cI) (cJ := cJ) (cZ := cZ) qr qn S_r T_r U_r S_n T_n U_n _ h
        refine k_callV C dX6_orders_61 hM gX6_orders_X5_become rfl sg_X5_become 5 rfl rfl rfl (Nat.le_of_ble_eq_true rfl) ⟨⟨rfl, rfl⟩, by decide, by decide⟩ ⟨Nat.le_refl 0, Nat.le_refl 0⟩ [10, 11, 12, 13, 14, 15, 16, 17, 18, 1, 2, 3, 4, 5, 6, 7, 8, 9] [0, 19, 20, 21, 22, 23, 24] rfl rfl rfl rfl (by decide) 0 0 ⟨rfl, rfl⟩ 64 rfl (fun v w1 hq61 => ?_)
        obtain ⟨S_r_61, T_r_61, rfl, rfl, h⟩ := hq61
        refine k_perm C [0, 16, 17, 18, 19, 20, 21, 22, 23, 24, 7, 8, 9, 10, 11, 12, 13, 14, 15, 1, 2, 3, 4, 5, 6] [] ((wdX cI cJ cZ qh qn qr qs qp qi qj qw qo ) ++ (wdW cI cJ cZ qn S_n T_n U_n) ++ (wdW cI cJ cZ qr S_r_61 T_r_61 U_r) ++ (wdP cI cJ cZ qp P_p) ++ (wdO cI cJ cZ qo OC_o O_o)) rfl rfl rfl ?_
        refine k_aload_n C dX6_orders_64 2 rfl rfl 65 rfl ?_
        refine k_get C dX6_orders_65 0 rfl (ci := 6) rfl hin_X6_orders_6 7 (by decide) (List.mem_of_getElem? (i := 4) rfl) rfl 68 rfl ?_
        refine k_aload_n C dX6_orders_68 2 rfl rfl 69 rfl ?_
        refine k_get C dX6_orders_69 0 rfl (ci := 6) rfl hin_X6_orders_6 3 (by decide) (List.mem_of_getElem? (i := 1) rfl) rfl 72 rfl ?_
        have hM := c_X1_start (l := l) (D := D) (cI := cI) (cJ := cJ) (cZ := cZ) qo qp OC_o O_o P_p _ h
        refine k_callV C dX6_orders_72 hM gX6_orders_X1_start rfl sg_X1_start 1 rfl rfl rfl (Nat.le_of_ble_eq_true rfl) ⟨⟨rfl, rfl⟩, by decide, by decide⟩ ⟨Nat.le_refl 0, Nat.le_refl 0⟩ [21, 22, 23, 24, 19, 20] [0, 1, 2, 3, 4, 5, 6, 7, 8, 9, 10, 11, 12, 13, 14, 15, 16, 17, 18] rfl rfl rfl rfl (by decide) 0 0 ⟨rfl, rfl⟩ 75 rfl (fun v w1 hq72 => ?_)
        obtain ⟨OC_o_72, O_o_72, rfl, rfl, h⟩ := hq72
        refine k_perm C [0, 1, 2, 3, 4, 5, 6, 7, 8, 9, 10, 11, 12, 13, 14, 15, 16, 17, 18, 23, 24, 19, 20, 21, 22] [] ((wdX cI cJ cZ qh qn qr qs qp qi qj qw qo ) ++ (wdW cI cJ cZ qn S_n T_n U_n) ++ (wdW cI cJ cZ qr S_r_61 T_r_61 U_r) ++ (wdP cI cJ cZ qp P_p) ++ (wdO cI cJ cZ qo OC_o_72 O_o_72)) rfl rfl rfl ?_
        refine k_aload_n C dX6_orders_75 2 rfl rfl 76 rfl ?_
        refine k_get C dX6_orders_76 0 rfl (ci := 6) rfl hin_X6_orders_6 1 (by decide) (List.mem_of_getElem? (i := 3) rfl) rfl 79 rfl ?_
        refine k_aload_n C dX6_orders_79 2 rfl rfl 80 rfl ?_
        refine k_get C dX6_orders_80 0 rfl (ci := 6) rfl hin_X6_orders_6 7 (by decide) (List.mem_of_getElem? (i := 4) rfl) rfl 83 rfl ?_
        refine k_iload_n C dX6_orders_83 1 rfl rfl 84 rfl ?_
        refine k_iconst C dX6_orders_84 85 rfl ?_
        have hM := c_X6_arrange (l := l) (D := D) (cI := cI) (cJ := cJ) (cZ := cZ) 8 qr qo S_r_61 T_r_61 U_r OC_o_72 O_o_72 r23 0 _ h
        refine k_callS C dX6_orders_85 hM gX6_orders_X6_arrange rfl sg_X6_arrange rfl (Nat.le_of_ble_eq_true rfl) ⟨⟨rfl, rfl⟩, by decide, by decide⟩ ⟨Nat.le_refl 0, Nat.le_refl 0⟩ [10, 11, 12, 13, 14, 15, 16, 17, 18, 21, 22, 23, 24] [0, 1, 2, 3, 4, 5, 6, 7, 8, 9, 19, 20] rfl rfl rfl rfl (by decide) 0 0 ⟨rfl, rfl⟩ 88 rfl (fun v w1 hq85 => ?_)
        obtain ⟨T_r_85, U_r_85, O_o_85, rfl, rfl, h⟩ := hq85
        refine k_perm C [0, 1, 2, 3, 4, 5, 6, 7, 8, 9, 12, 13, 14, 15, 16, 17, 18, 19, 20, 10, 11, 21, 22, 23, 24] [] ((wdX cI cJ cZ qh qn qr qs qp qi qj qw qo ) ++ (wdW cI cJ cZ qn S_n T_n U_n) ++ (wdW cI cJ cZ qr S_r_61 T_r_85 U_r_85) ++ (wdP cI cJ cZ qp P_p) ++ (wdO cI cJ cZ qo OC_o_72 O_o_85)) rfl rfl rfl ?_
        refine k_iload_n C dX6_orders_88 3 rfl rfl 89 rfl ?_
        refine k_iconst C dX6_orders_89 90 rfl ?_
        obtain ⟨hr90a, h⟩ := h
        obtain ⟨ht, hf⟩ := h
        refine k_icmp_ne C dX6_orders_90 ⟨hr90a, (by decide)⟩ 101 93 (by decide) rfl (fun hc90 => ?_) (fun hc90 => ?_)
        · have h := ht hc90; clear ht hf
          refine k_iload_n C dX6_orders_101 3 rfl rfl 102 rfl ?_
          obtain ⟨ht, hf⟩ := h
          refine k_if_lt C dX6_orders_102 hr90a 124 105 (by decide) rfl (fun hc102 => ?_) (fun hc102 => ?_)
          · have h := ht hc102; clear ht hf
            refine k_iconst C dX6_orders_124 125 rfl ?_
            refine k_lv C [2, 3] [(0, .ref (qh 0)), (1, .int (iI x1))] rfl ?_
            refine w_X6_orders_125 C x1 0 S_r_61 T_r_85 U_r_85 OC_o_72 O_o_85 h
          · have h := hf hc102; clear ht hf
            refine k_iload_n C dX6_orders_105 3 rfl rfl 106 rfl ?_
            refine k_iload_n C dX6_orders_106 0 rfl rfl 107 rfl ?_
            obtain ⟨ht, hf⟩ := h
            refine k_icmp_ge C dX6_orders_107 ⟨hr90a, hr47a⟩ 124 110 (by decide) rfl (fun hc107 => ?_) (fun hc107 => ?_)
            · have h := ht hc107; clear ht hf
              refine k_iconst C dX6_orders_124 125 rfl ?_
              refine k_lv C [2, 3] [(0, .ref (qh 0)), (1, .int (iI x1))] rfl ?_
              refine w_X6_orders_125 C x1 0 S_r_61 T_r_85 U_r_85 OC_o_72 O_o_85 h
            · have h := hf hc107; clear ht hf
              refine k_aload_n C dX6_orders_110 2 rfl rfl 111 rfl ?_
              refine k_get C dX6_orders_111 0 rfl (ci := 6) rfl hin_X6_orders_6 7 (by decide) (List.mem_of_getElem? (i := 4) rfl) rfl 114 rfl ?_
              refine k_getN C dX6_orders_114 21 rfl (ci := 1) rfl hin_X6_orders_1 0 (by decide) (List.mem_of_getElem? (i := 27) rfl) rfl 117 rfl ?_
              obtain ⟨hr117a, h⟩ := h
              obtain ⟨ht, hf⟩ := h
              refine k_if_le C dX6_orders_117 hr117a 124 120 (by decide) rfl (fun hc117 => ?_) (fun hc117 => ?_)
              · have h := ht hc117; clear ht hf
                refine k_iconst C dX6_orders_124 125 rfl ?_
                refine k_lv C [2, 3] [(0, .ref (qh 0)), (1, .int (iI x1))] rfl ?_
                refine w_X6_orders_125 C x1 0 S_r_61 T_r_85 U_r_85 OC_o_72 O_o_85 h
              · have h := hf hc117; clear ht hf
                refine k_iconst C dX6_orders_120 121 rfl ?_
                refine k_goto C dX6_orders_121 125 (by decide) ?_
                refine k_lv C [2, 3] [(0, .ref (qh 0)), (1, .int (iI x1))] rfl ?_
                refine w_X6_orders_125 C x1 1 S_r_61 T_r_85 U_r_85 OC_o_72 O_o_85 h
        · have h := hf hc90; clear ht hf
          refine k_aload_n C dX6_orders_93 2 rfl rfl 94 rfl ?_
          refine k_get C dX6_orders_94 0 rfl (ci := 6) rfl hin_X6_orders_6 7 (by decide) (List.mem_of_getElem? (i := 4) rfl) rfl 97 rfl ?_
          refine k_getN C dX6_orders_97 21 rfl (ci := 1) rfl hin_X6_orders_1 0 (by decide) (List.mem_of_getElem? (i := 27) rfl) rfl 100 rfl ?_
          exact k_iret C dX6_orders_100 ⟨O_o_85.1, S_r_61, T_r_85, U_r_85, OC_o_72, O_o_85, rfl, rfl, h⟩
      · have h := hf hc47; clear ht hf
        refine k_bipush C dX6_orders_50 (by decide) 52 rfl ?_
        exact k_iret C dX6_orders_52 ⟨(-4), S_r, T_r, U_r, OC_o, O_o, rfl, rfl, h⟩
    · have h := hf hc30; clear ht hf
      refine k_bipush C dX6_orders_33 (by decide) 35 rfl ?_
      exact k_iret C dX6_orders_35 ⟨(-5), S_r, T_r, U_r, OC_o, O_o, rfl, rfl, h⟩
  · have h := hf hc16; clear ht hf
    refine k_bipush C dX6_orders_19 (by decide) 21 rfl ?_
    exact k_iret C dX6_orders_21 ⟨(-5), S_r, T_r, U_r, OC_o, O_o, rfl, rfl, h⟩

/-! X6_climb -/
abbrev rm_X6_climb (d : Nat) : Room := { frames := 4 + d, cells := 0, slots := 0, locals := 132 + 27 * d }
theorem sg_X6_climb : yX6_climb.cls ≠ "java/lang/invoke/MethodHandle" ∧ yX6_climb.cls ≠ "java/lang/invoke/VarHandle" ∧ (parseMethodDescriptor yX6_climb.desc).map (fun d => d.parameters.length) = some 3 := by decide +kernel
theorem hin_X6_climb_5 : ∀ w ∈ wsX50, w ∈ wsX6_climb := fun _ h => List.mem_cons_of_mem _ (List.mem_append_right _ h)
def rp_X6_climb (cI cJ cZ : ClassId) (qa0 : Nat → Nat) (S_a0 : gWS) (Q : Int → gWT → gWU → Prop) : Option Value → va_W → Prop := fun v w1 => ∃ (r : Int) (T_a0 : gWT) (U_a0 : gWU), v = some (.int (iI r)) ∧ w1 = (wdW cI cJ cZ qa0 S_a0 T_a0 U_a0) ∧ Q r T_a0 U_a0
def wp_X6_climb_80 (REC : gWS → gWT → gWU → Int → Int → (Int → gWT → gWU → Prop) → Prop) (S_a0 : gWS) (K_121 : Int → Int → Int → Int → gWT → gWU → Prop)  (Q : Int → gWT → gWU → Prop) : Nat → Int → Int → Int → Int → Int → gWT → gWU → Prop
  | 0, _, _, _, _, _, _, _ => False
  | n80 + 1, x1, x4, x5, x6, x7, T_a0, U_a0 =>
    rI x7 ∧ rI x5 ∧ ((x5 ≤ x7 → K_121 x1 x4 x5 x6 T_a0 U_a0) ∧ (¬ (x5 ≤ x7) → wp_X5_put S_a0 T_a0 U_a0 x6 x7 (fun (r92 : Int) (T_a0_92 : gWT) (U_a0_92 : gWU) => rI r92 ∧ ((¬ r92 = 0 → wp_X6_climb_80 REC S_a0 K_121 Q n80 x1 x4 x5 x6 (x7 + 1) T_a0_92 U_a0_92) ∧ (¬ (¬ r92 = 0) → REC S_a0 T_a0_92 U_a0_92 (x1 + 1) x4 (fun (r104 : Int) (T_a0_104 : gWT) (U_a0_104 : gWU) => wp_X5_lift S_a0 T_a0_104 x6 (fun (T_a0_112 : gWT) => wp_X6_climb_80 REC S_a0 K_121 Q n80 x1 r104 x5 x6 (x7 + 1) T_a0_112 U_a0_104)))))))
def wp_X6_climb_61 (REC : gWS → gWT → gWU → Int → Int → (Int → gWT → gWU → Prop) → Prop) (S_a0 : gWS) (K_127 : Int → gWT → gWU → Prop)  (Q : Int → gWT → gWU → Prop) : Nat → Int → Int → Int → Int → gWT → gWU → Prop
  | 0, _, _, _, _, _, _ => False
  | n61 + 1, x1, x4, x5, x6, T_a0, U_a0 =>
    rI x6 ∧ ((10 ≤ x6 → K_127 x4 T_a0 U_a0) ∧ (¬ (10 ≤ x6) → wp_X5_isFree S_a0 T_a0 x6 (fun (r71 : Int) => ((r71 = 0 → wp_X6_climb_61 REC S_a0 K_127 Q n61 x1 x4 x5 (x6 + 1) T_a0 U_a0) ∧ (¬ (r71 = 0) → ∃ m80, wp_X6_climb_80 REC S_a0 (fun (x1 : Int) (x4 : Int) (x5 : Int) (x6 : Int) (T_a0 : gWT) (U_a0 : gWU) => wp_X6_climb_61 REC S_a0 K_127 Q n61 x1 x4 x5 (x6 + 1) T_a0 U_a0) Q m80 x1 x4 x5 x6 0 T_a0 U_a0)))))
def wpb_X6_climb (REC : gWS → gWT → gWU → Int → Int → (Int → gWT → gWU → Prop) → Prop) (S_a0 : gWS) (T_a0 : gWT) (U_a0 : gWU) (x1 : Int) (x2 : Int) (Q : Int → gWT → gWU → Prop) : Prop :=
    rI x1 ∧ ((x1 < 0 → Q x2 T_a0 U_a0) ∧ (¬ (x1 < 0) → ((x1 ≤ 3 → wp_X5_tallest T_a0 (fun (r16 : Int) => rI x2 ∧ rI (((4 * r16) + 3) - x1) ∧ wp_X5_freeGuests S_a0 T_a0 (fun (r35 : Int) => wp_J6_bitCount_0f7a4 r35 (fun (r38 : Int) => rI (max x2 (((4 * r16) + 3) - x1)) ∧ rI (r16 + r38) ∧ rI ((max x2 (((4 * r16) + 3) - x1)).tdiv 4) ∧ ((((max x2 (((4 * r16) + 3) - x1)).tdiv 4) < (r16 + r38) → ∃ m61, wp_X6_climb_61 REC S_a0 (fun (x4 : Int) (T_a0 : gWT) (U_a0 : gWU) => Q x4 T_a0 U_a0) Q m61 x1 (max x2 (((4 * r16) + 3) - x1)) S_a0.1 0 T_a0 U_a0) ∧ (¬ (((max x2 (((4 * r16) + 3) - x1)).tdiv 4) < (r16 + r38)) → Q (max x2 (((4 * r16) + 3) - x1)) T_a0 U_a0)))))) ∧ (¬ (x1 ≤ 3) → Q x2 T_a0 U_a0))))
def wp_X6_climb : Nat → (gWS → gWT → gWU → Int → Int → (Int → gWT → gWU → Prop) → Prop)
  | 0 => fun _ _ _ _ _ _ => False
  | d + 1 => wpb_X6_climb (wp_X6_climb d)
set_option maxHeartbeats 4000000 in
set_option maxRecDepth 20000 in
theorem w_X6_climb_80 {l : Launch} {D : va_G} {cI cJ cZ : ClassId} {A : Nat → Prop} {K : KT} {d : Nat} {REC : gWS → gWT → gWU → Int → Int → (Int → gWT → gWU → Prop) → Prop} {qa0 : Nat → Nat} {S_a0 : gWS} {Q : Int → gWT → gWU → Prop} {K_121 : Int → Int → Int → Int → gWT → gWU → Prop} (C : KC cX6_climb yX6_climb.cls wsX6_climb (rm_X6_climb (d + 1)) 8 D (kT cI cJ cZ) A l false (rp_X6_climb cI cJ cZ qa0 S_a0 Q) 0 0 K) (hREC : ∀ (S_a0 : gWS) (T_a0 : gWT) (U_a0 : gWU) (x1 : Int) (x2 : Int) (Q : Int → gWT → gWU → Prop), REC S_a0 T_a0 U_a0 x1 x2 Q → KM l D (kT cI cJ cZ) 0 0 yX6_climb wsX6_climb (rm_X6_climb d) [.ref (qa0 0), .int (iI x1), .int (iI x2)] ((wdW cI cJ cZ qa0 S_a0 T_a0 U_a0)) (rp_X6_climb cI cJ cZ qa0 S_a0 Q)) : ∀ (n : Nat) (x1 : Int) (x4 : Int) (x5 : Int) (x6 : Int) (x7 : Int) (T_a0 : gWT) (U_a0 : gWU), wp_X6_climb_80 REC S_a0 K_121 Q n x1 x4 x5 x6 x7 T_a0 U_a0 → (∀ (x1 : Int) (x4 : Int) (x5 : Int) (x6 : Int) (T_a0 : gWT) (U_a0 : gWU), K_121 x1 x4 x5 x6 T_a0 U_a0 → K 0 0 121 [(0, .ref (qa0 0)), (1, .int (iI x1)), (4, .int (iI x4)), (5, .int (iI x5)), (6, .int (iI x6))] [] ((wdW cI cJ cZ qa0 S_a0 T_a0 U_a0))) → K 0 0 80 [(0, .ref (qa0 0)), (1, .int (iI x1)), (4, .int (iI x4)), (5, .int (iI x5)), (6, .int (iI x6)), (7, .int (iI x7))] [] ((wdW cI cJ cZ qa0 S_a0 T_a0 U_a0)) := by
  intro n
  induction n with
  | zero => intro x1 x4 x5 x6 x7 T_a0 U_a0 h; exact h.elim
  | succ n ih =>
    intro x1 x4 x5 x6 x7 T_a0 U_a0 h hK_121
    refine k_iload C dX6_climb_80 5 rfl 82 rfl ?_
    refine k_iload C dX6_climb_82 3 rfl 84 rfl ?_
    obtain ⟨hr84a, hr84b, h⟩ := h
    obtain ⟨ht, hf⟩ := h
    refine k_icmp_ge C dX6_climb_84 ⟨hr84a, hr84b⟩ 121 87 (by decide) rfl (fun hc84 => ?_) (fun hc84 => ?_)
    · have h := ht hc84; clear ht hf
      refine k_lv C [0, 1, 2, 3, 4] [(0, .ref (qa0 0)), (1, .int (iI x1)), (4, .int (iI x4)), (5, .int (iI x5)), (6, .int (iI x6))] rfl ?_
      exact hK_121 x1 x4 x5 x6 T_a0 U_a0 h
    · have h := hf hc84; clear ht hf
      refine k_aload_n C dX6_climb_87 0 rfl rfl 88 rfl ?_
      refine k_iload C dX6_climb_88 4 rfl 90 rfl ?_
      refine k_iload C dX6_climb_90 5 rfl 92 rfl ?_
      have hM := c_X5_put (l := l) (D := D) (cI := cI) (cJ := cJ) (cZ := cZ) qa0 S_a0 T_a0 U_a0 x6 x7 _ h
      refine k_callV C dX6_climb_92 hM gX6_climb_X5_put rfl sg_X5_put 5 rfl rfl rfl (Nat.le_of_ble_eq_true rfl) ⟨⟨rfl, rfl⟩, by simp only [rm_X6_climb, rm_X5_put]; omega, by simp only [rm_X6_climb, rm_X5_put]; omega⟩ ⟨Nat.le_refl 0, Nat.le_refl 0⟩ [0, 1, 2, 3, 4, 5, 6, 7, 8] [] rfl rfl rfl rfl (by decide) 0 0 ⟨rfl, rfl⟩ 95 rfl (fun v w1 hq92 => ?_)
      obtain ⟨r92, T_a0_92, U_a0_92, rfl, rfl, h⟩ := hq92
      refine k_perm C [0, 1, 2, 3, 4, 5, 6, 7, 8] [.int (iI r92)] ((wdW cI cJ cZ qa0 S_a0 T_a0_92 U_a0_92)) rfl rfl rfl ?_
      obtain ⟨hr95a, h⟩ := h
      obtain ⟨ht, hf⟩ := h
      refine k_if_ne C dX6_climb_95 hr95a 115 98 (by decide) rfl (fun hc95 => ?_) (fun hc95 => ?_)
      · have h := ht hc95; clear ht hf
        refine k_iinc (j := 5) C dX6_climb_115 rfl (by decide) [(7, .int (iI (x7 + 1))), (0, .ref (qa0 0)), (1, .int (iI x1)), (4, .int (iI x4)), (5, .int (iI x5)), (6, .int (iI x6))] rfl 118 rfl ?_
        refine k_goto C dX6_climb_118 80 (by decide) ?_
        refine k_lv C [1, 2, 3, 4, 5, 0] [(0, .ref (qa0 0)), (1, .int (iI x1)), (4, .int (iI x4)), (5, .int (iI x5)), (6, .int (iI x6)), (7, .int (iI (x7 + 1)))] rfl ?_
        exact ih x1 x4 x5 x6 (x7 + 1) T_a0_92 U_a0_92 h hK_121
      · have h := hf hc95; clear ht hf
        refine k_aload_n C dX6_climb_98 0 rfl rfl 99 rfl ?_
        refine k_iload_n C dX6_climb_99 1 rfl rfl 100 rfl ?_
        refine k_iconst C dX6_climb_100 101 rfl ?_
        refine k_iadd C dX6_climb_101 102 rfl ?_
        refine k_iload C dX6_climb_102 2 rfl 104 rfl ?_
        have hM := hREC S_a0 T_a0_92 U_a0_92 (x1 + 1) x4 _ h
        refine k_callS C dX6_climb_104 hM gX6_climb_X6_climb rfl sg_X6_climb rfl (Nat.le_of_ble_eq_true rfl) ⟨⟨rfl, rfl⟩, by simp only [rm_X6_climb, rm_X6_climb]; omega, by simp only [rm_X6_climb, rm_X6_climb]; omega⟩ ⟨Nat.le_refl 0, Nat.le_refl 0⟩ [0, 1, 2, 3, 4, 5, 6, 7, 8] [] rfl rfl rfl rfl (by decide) 0 0 ⟨rfl, rfl⟩ 107 rfl (fun v w1 hq104 => ?_)
        obtain ⟨r104, T_a0_104, U_a0_104, rfl, rfl, h⟩ := hq104
        refine k_perm C [0, 1, 2, 3, 4, 5, 6, 7, 8] [.int (iI r104)] ((wdW cI cJ cZ qa0 S_a0 T_a0_104 U_a0_104)) rfl rfl rfl ?_
        refine k_istore C dX6_climb_107 (by decide) [(4, .int (iI r104)), (0, .ref (qa0 0)), (1, .int (iI x1)), (5, .int (iI x5)), (6, .int (iI x6)), (7, .int (iI x7))] rfl 109 rfl ?_
        refine k_aload_n C dX6_climb_109 1 rfl rfl 110 rfl ?_
        refine k_iload C dX6_climb_110 4 rfl 112 rfl ?_
        have hM := c_X5_lift (l := l) (D := D) (cI := cI) (cJ := cJ) (cZ := cZ) qa0 S_a0 T_a0_104 U_a0_104 x6 _ h
        refine k_callV C dX6_climb_112 hM gX6_climb_X5_lift rfl sg_X5_lift 5 rfl rfl rfl (Nat.le_of_ble_eq_true rfl) ⟨⟨rfl, rfl⟩, by simp only [rm_X6_climb, rm_X5_lift]; omega, by simp only [rm_X6_climb, rm_X5_lift]; omega⟩ ⟨Nat.le_refl 0, Nat.le_refl 0⟩ [0, 1, 2, 3, 4, 5, 6, 7, 8] [] rfl rfl rfl rfl (by decide) 0 0 ⟨rfl, rfl⟩ 115 rfl (fun v w1 hq112 => ?_)
        obtain ⟨T_a0_112, rfl, rfl, h⟩ := hq112
        refine k_perm C [0, 1, 2, 3, 4, 5, 6, 7, 8] [] ((wdW cI cJ cZ qa0 S_a0 T_a0_112 U_a0_104)) rfl rfl rfl ?_
        refine k_iinc (j := 5) C dX6_climb_115 rfl (by decide) [(7, .int (iI (x7 + 1))), (4, .int (iI r104)), (0, .ref (qa0 0)), (1, .int (iI x1)), (5, .int (iI x5)), (6, .int (iI x6))] rfl 118 rfl ?_
        refine k_goto C dX6_climb_118 80 (by decide) ?_
        refine k_lv C [2, 3, 1, 4, 5, 0] [(0, .ref (qa0 0)), (1, .int (iI x1)), (4, .int (iI r104)), (5, .int (iI x5)), (6, .int (iI x6)), (7, .int (iI (x7 + 1)))] rfl ?_
        exact ih x1 r104 x5 x6 (x7 + 1) T_a0_112 U_a0_104 h hK_121
set_option maxHeartbeats 4000000 in
set_option maxRecDepth 20000 in
theorem w_X6_climb_61 {l : Launch} {D : va_G} {cI cJ cZ : ClassId} {A : Nat → Prop} {K : KT} {d : Nat} {REC : gWS → gWT → gWU → Int → Int → (Int → gWT → gWU → Prop) → Prop} {qa0 : Nat → Nat} {S_a0 : gWS} {Q : Int → gWT → gWU → Prop} {K_127 : Int → gWT → gWU → Prop} (C : KC cX6_climb yX6_climb.cls wsX6_climb (rm_X6_climb (d + 1)) 8 D (kT cI cJ cZ) A l false (rp_X6_climb cI cJ cZ qa0 S_a0 Q) 0 0 K) (hREC : ∀ (S_a0 : gWS) (T_a0 : gWT) (U_a0 : gWU) (x1 : Int) (x2 : Int) (Q : Int → gWT → gWU → Prop), REC S_a0 T_a0 U_a0 x1 x2 Q → KM l D (kT cI cJ cZ) 0 0 yX6_climb wsX6_climb (rm_X6_climb d) [.ref (qa0 0), .int (iI x1), .int (iI x2)] ((wdW cI cJ cZ qa0 S_a0 T_a0 U_a0)) (rp_X6_climb cI cJ cZ qa0 S_a0 Q)) : ∀ (n : Nat) (x1 : Int) (x4 : Int) (x5 : Int) (x6 : Int) (T_a0 : gWT) (U_a0 : gWU), wp_X6_climb_61 REC S_a0 K_127 Q n x1 x4 x5 x6 T_a0 U_a0 → (∀ (x4 : Int) (T_a0 : gWT) (U_a0 : gWU), K_127 x4 T_a0 U_a0 → K 0 0 127 [(4, .int (iI x4))] [] ((wdW cI cJ cZ qa0 S_a0 T_a0 U_a0))) → K 0 0 61 [(0, .ref (qa0 0)), (1, .int (iI x1)), (4, .int (iI x4)), (5, .int (iI x5)), (6, .int (iI x6))] [] ((wdW cI cJ cZ qa0 S_a0 T_a0 U_a0)) := by
  intro n
  induction n with
  | zero => intro x1 x4 x5 x6 T_a0 U_a0 h; exact h.elim
  | succ n ih =>
    intro x1 x4 x5 x6 T_a0 U_a0 h hK_127
    refine k_iload C dX6_climb_61 4 rfl 63 rfl ?_
    refine k_bipush C dX6_climb_63 (by decide) 65 rfl ?_
    obtain ⟨hr65a, h⟩ := h
    obtain ⟨ht, hf⟩ := h
    refine k_icmp_ge C dX6_climb_65 ⟨hr65a, (by decide)⟩ 127 68 (by decide) rfl (fun hc65 => ?_) (fun hc65 => ?_)
    · have h := ht hc65; clear ht hf
      refine k_lv C [2] [(4, .int (iI x4))] rfl ?_
      exact hK_127 x4 T_a0 U_a0 h
    · have h := hf hc65; clear ht hf
      refine k_aload_n C dX6_climb_68 0 rfl rfl 69 rfl ?_
      refine k_iload C dX6_climb_69 4 rfl 71 rfl ?_
      have hM := c_X5_isFree (l := l) (D := D) (cI := cI) (cJ := cJ) (cZ := cZ) qa0 S_a0 T_a0 U_a0 x6 _ h
      refine k_callV C dX6_climb_71 hM gX6_climb_X5_isFree rfl sg_X5_isFree 5 rfl rfl rfl (Nat.le_of_ble_eq_true rfl) ⟨⟨rfl, rfl⟩, by simp only [rm_X6_climb, rm_X5_isFree]; omega, by simp only [rm_X6_climb, rm_X5_isFree]; omega⟩ ⟨Nat.le_refl 0, Nat.le_refl 0⟩ [0, 1, 2, 3, 4, 5, 6, 7, 8] [] rfl rfl rfl rfl (by decide) 0 0 ⟨rfl, rfl⟩ 74 rfl (fun v w1 hq71 => ?_)
      obtain ⟨r71, rfl, rfl, hb71, h⟩ := hq71
      refine k_perm C [0, 1, 2, 3, 4, 5, 6, 7, 8] [.int (iI r71)] ((wdW cI cJ cZ qa0 S_a0 T_a0 U_a0)) rfl rfl rfl ?_
      obtain ⟨ht, hf⟩ := h
      refine k_if_eq C dX6_climb_74 (by rcases hb71 with rfl | rfl <;> decide) 121 77 (by decide) rfl (fun hc74 => ?_) (fun hc74 => ?_)
      · have h := ht hc74; clear ht hf
        refine k_iinc (j := 4) C dX6_climb_121 rfl (by decide) [(6, .int (iI (x6 + 1))), (0, .ref (qa0 0)), (1, .int (iI x1)), (4, .int (iI x4)), (5, .int (iI x5))] rfl 124 rfl ?_
        refine k_goto C dX6_climb_124 61 (by decide) ?_
        refine k_lv C [1, 2, 3, 4, 0] [(0, .ref (qa0 0)), (1, .int (iI x1)), (4, .int (iI x4)), (5, .int (iI x5)), (6, .int (iI (x6 + 1)))] rfl ?_
        exact ih x1 x4 x5 (x6 + 1) T_a0 U_a0 h hK_127
      · have h := hf hc74; clear ht hf
        refine k_iconst C dX6_climb_77 78 rfl ?_
        refine k_istore C dX6_climb_78 (by decide) [(7, .int (iI 0)), (0, .ref (qa0 0)), (1, .int (iI x1)), (4, .int (iI x4)), (5, .int (iI x5)), (6, .int (iI x6))] rfl 80 rfl ?_
        refine k_lv C [1, 2, 3, 4, 5, 0] [(0, .ref (qa0 0)), (1, .int (iI x1)), (4, .int (iI x4)), (5, .int (iI x5)), (6, .int (iI x6)), (7, .int (iI 0))] rfl ?_
        obtain ⟨m80, h⟩ := h
        refine w_X6_climb_80 C hREC m80 x1 x4 x5 x6 0 T_a0 U_a0 h (fun x1 x4 x5 x6 T_a0 U_a0 h => ?_)
        · refine k_iinc (j := 4) C dX6_climb_121 rfl (by decide) [(6, .int (iI (x6 + 1))), (0, .ref (qa0 0)), (1, .int (iI x1)), (4, .int (iI x4)), (5, .int (iI x5))] rfl 124 rfl ?_
          refine k_goto C dX6_climb_124 61 (by decide) ?_
          refine k_lv C [1, 2, 3, 4, 0] [(0, .ref (qa0 0)), (1, .int (iI x1)), (4, .int (iI x4)), (5, .int (iI x5)), (6, .int (iI (x6 + 1)))] rfl ?_
          exact ih x1 x4 x5 (x6 + 1) T_a0 U_a0 h hK_127
set_option maxHeartbeats 4000000 in
set_option maxRecDepth 20000 in
theorem c_X6_climb {l : Launch} {D : va_G} {cI cJ cZ : ClassId} (d : Nat) (qa0 : Nat → Nat) (S_a0 : gWS) (T_a0 : gWT) (U_a0 : gWU) (x1 : Int) (x2 : Int) (Q : Int → gWT → gWU → Prop) (h : wp_X6_climb d S_a0 T_a0 U_a0 x1 x2 Q) : KM l D (kT cI cJ cZ) 0 0 yX6_climb wsX6_climb (rm_X6_climb d) [.ref (qa0 0), .int (iI x1), .int (iI x2)] ((wdW cI cJ cZ qa0 S_a0 T_a0 U_a0)) (rp_X6_climb cI cJ cZ qa0 S_a0 Q) := by
  induction d generalizing S_a0 T_a0 U_a0 x1 x2 Q with
  | zero => exact h.elim
  | succ d ihd =>
  have hREC := ihd
  have h : wpb_X6_climb (wp_X6_climb d) S_a0 T_a0 U_a0 x1 x2 Q := h
  refine KM_intro (lv := [(0, .ref (qa0 0)), (1, .int (iI x1)), (2, .int (iI x2))]) false rfl (by decide) (Nat.le_of_ble_eq_true rfl) rfl (fun h => absurd h (by decide)) (fun v ws hq => by obtain ⟨r, T_a0, U_a0, rfl, rfl, _⟩ := hq; exact Or.inr (Or.inl ⟨rfl, _, rfl⟩)) (fun A K C => ?_)
  refine k_aload_n C dX6_climb_0 0 rfl rfl 1 rfl ?_
  refine k_ifnull C dX6_climb_1 4 rfl ?_
  refine k_iload_n C dX6_climb_4 1 rfl rfl 5 rfl ?_
  obtain ⟨hr5a, h⟩ := h
  obtain ⟨ht, hf⟩ := h
  refine k_if_lt C dX6_climb_5 hr5a 13 8 (by decide) rfl (fun hc5 => ?_) (fun hc5 => ?_)
  · have h := ht hc5; clear ht hf
    refine k_iload_n C dX6_climb_13 2 rfl rfl 14 rfl ?_
    exact k_iret C dX6_climb_14 ⟨x2, T_a0, U_a0, rfl, rfl, h⟩
  · have h := hf hc5; clear ht hf
    refine k_iload_n C dX6_climb_8 1 rfl rfl 9 rfl ?_
    refine k_iconst C dX6_climb_9 10 rfl ?_
    obtain ⟨ht, hf⟩ := h
    refine k_icmp_le C dX6_climb_10 ⟨hr5a, (by decide)⟩ 15 13 (by decide) rfl (fun hc10 => ?_) (fun hc10 => ?_)
    · have h := ht hc10; clear ht hf
      refine k_aload_n C dX6_climb_15 0 rfl rfl 16 rfl ?_
      have hM := c_X5_tallest (l := l) (D := D) (cI := cI) (cJ := cJ) (cZ := cZ) qa0 S_a0 T_a0 U_a0 _ h
      refine k_callV C dX6_climb_16 hM gX6_climb_X5_tallest rfl sg_X5_tallest 5 rfl rfl rfl (Nat.le_of_ble_eq_true rfl) ⟨⟨rfl, rfl⟩, by simp only [rm_X6_climb, rm_X5_tallest]; omega, by simp only [rm_X6_climb, rm_X5_tallest]; omega⟩ ⟨Nat.le_refl 0, Nat.le_refl 0⟩ [0, 1, 2, 3, 4, 5, 6, 7, 8] [] rfl rfl rfl rfl (by decide) 0 0 ⟨rfl, rfl⟩ 19 rfl (fun v w1 hq16 => ?_)
      obtain ⟨r16, rfl, rfl, h⟩ := hq16
      refine k_perm C [0, 1, 2, 3, 4, 5, 6, 7, 8] [.int (iI r16)] ((wdW cI cJ cZ qa0 S_a0 T_a0 U_a0)) rfl rfl rfl ?_
      refine k_istore_n C dX6_climb_19 rfl (by decide) [(3, .int (iI r16)), (0, .ref (qa0 0)), (1, .int (iI x1)), (2, .int (iI x2))] rfl 20 rfl ?_
      refine k_iload_n C dX6_climb_20 3 rfl rfl 21 rfl ?_
      refine k_iconst C dX6_climb_21 22 rfl ?_
      refine k_iload_n C dX6_climb_22 0 rfl rfl 23 rfl ?_
      refine k_imul C dX6_climb_23 24 rfl ?_
      refine k_iconst C dX6_climb_24 25 rfl ?_
      refine k_iadd C dX6_climb_25 26 rfl ?_
      refine k_iload_n C dX6_climb_26 2 rfl rfl 27 rfl ?_
      refine k_isub C dX6_climb_27 28 rfl ?_
      obtain ⟨hr28a, hr28b, h⟩ := h
      refine k_mmax C dX6_climb_28 (List.mem_of_getElem? (i := 1) rfl) (List.mem_of_getElem? (i := 2) rfl) (List.mem_of_getElem? (i := 3) rfl) (List.mem_of_getElem? (i := 4) rfl) (by simp only [rm_X6_climb]; omega) (Nat.le_trans (Nat.le_of_ble_eq_true rfl : _ ≤ 64) (by simp only [rm_X6_climb]; omega)) ⟨Nat.zero_le _, Nat.zero_le _⟩ ⟨hr28a, hr28b⟩ 31 rfl ?_
      refine k_istore C dX6_climb_31 (by decide) [(4, .int (iI (max x2 (((4 * r16) + 3) - x1)))), (3, .int (iI r16)), (0, .ref (qa0 0)), (1, .int (iI x1)), (2, .int (iI x2))] rfl 33 rfl ?_
      refine k_iload_n C dX6_climb_33 1 rfl rfl 34 rfl ?_
      refine k_aload_n C dX6_climb_34 2 rfl rfl 35 rfl ?_
      have hM := c_X5_freeGuests (l := l) (D := D) (cI := cI) (cJ := cJ) (cZ := cZ) qa0 S_a0 T_a0 U_a0 _ h
      refine k_callV C dX6_climb_35 hM gX6_climb_X5_freeGuests rfl sg_X5_freeGuests 5 rfl rfl rfl (Nat.le_of_ble_eq_true rfl) ⟨⟨rfl, rfl⟩, by simp only [rm_X6_climb, rm_X5_freeGuests]; omega, by simp only [rm_X6_climb, rm_X5_freeGuests]; omega⟩ ⟨Nat.le_refl 0, Nat.le_refl 0⟩ [0, 1, 2, 3, 4, 5, 6, 7, 8] [] rfl rfl rfl rfl (by decide) 0 0 ⟨rfl, rfl⟩ 38 rfl (fun v w1 hq35 => ?_)
      obtain ⟨r35, rfl, rfl, h⟩ := hq35
      refine k_perm C [0, 1, 2, 3, 4, 5, 6, 7, 8] [.int (iI r35), .int (iI r16)] ((wdW cI cJ cZ qa0 S_a0 T_a0 U_a0)) rfl rfl rfl ?_
      have hM := c_J6_bitCount_0f7a4 (l := l) (D := D) (cI := cI) (cJ := cJ) (cZ := cZ) r35 _ h
      refine k_callS C dX6_climb_38 hM gX6_climb_J6_bitCount_0f7a4 rfl sg_J6_bitCount_0f7a4 rfl (Nat.le_of_ble_eq_true rfl) ⟨⟨rfl, rfl⟩, by simp only [rm_X6_climb, rm_J6_bitCount_0f7a4]; omega, by simp only [rm_X6_climb, rm_J6_bitCount_0f7a4]; omega⟩ ⟨Nat.le_refl 0, Nat.le_refl 0⟩ [] [0, 1, 2, 3, 4, 5, 6, 7, 8] rfl rfl rfl rfl (by decide) 0 0 ⟨rfl, rfl⟩ 41 rfl (fun v w1 hq38 => ?_)
      obtain ⟨r38, rfl, rfl, h⟩ := hq38
      refine k_perm C [0, 1, 2, 3, 4, 5, 6, 7, 8] [.int (iI r38), .int (iI r16)] ((wdW cI cJ cZ qa0 S_a0 T_a0 U_a0)) rfl rfl rfl ?_
      refine k_iadd C dX6_climb_41 42 rfl ?_
      refine k_iload C dX6_climb_42 0 rfl 44 rfl ?_
      refine k_iconst C dX6_climb_44 45 rfl ?_
      obtain ⟨hr45a, h⟩ := h
      refine k_idiv C dX6_climb_45 ⟨hr45a, (by decide), (by decide)⟩ 46 rfl ?_
      obtain ⟨hr46a, hr46b, h⟩ := h
      obtain ⟨ht, hf⟩ := h
      refine k_icmp_gt C dX6_climb_46 ⟨hr46a, hr46b⟩ 52 49 (by decide) rfl (fun hc46 => ?_) (fun hc46 => ?_)
      · have h := ht hc46; clear ht hf
        refine k_aload_n C dX6_climb_52 2 rfl rfl 53 rfl ?_
        refine k_getN C dX6_climb_53 0 rfl (ci := 5) rfl hin_X6_climb_5 0 (by decide) (List.mem_of_getElem? (i := 1) rfl) rfl 56 rfl ?_
        refine k_istore C dX6_climb_56 (by decide) [(5, .int (iI S_a0.1)), (4, .int (iI (max x2 (((4 * r16) + 3) - x1)))), (3, .int (iI r16)), (0, .ref (qa0 0)), (1, .int (iI x1)), (2, .int (iI x2))] rfl 58 rfl ?_
        refine k_iconst C dX6_climb_58 59 rfl ?_
        refine k_istore C dX6_climb_59 (by decide) [(6, .int (iI 0)), (5, .int (iI S_a0.1)), (4, .int (iI (max x2 (((4 * r16) + 3) - x1)))), (3, .int (iI r16)), (0, .ref (qa0 0)), (1, .int (iI x1)), (2, .int (iI x2))] rfl 61 rfl ?_
        refine k_lv C [4, 5, 2, 1, 0] [(0, .ref (qa0 0)), (1, .int (iI x1)), (4, .int (iI (max x2 (((4 * r16) + 3) - x1)))), (5, .int (iI S_a0.1)), (6, .int (iI 0))] rfl ?_
        obtain ⟨m61, h⟩ := h
        refine w_X6_climb_61 C hREC m61 x1 (max x2 (((4 * r16) + 3) - x1)) S_a0.1 0 T_a0 U_a0 h (fun x4 T_a0 U_a0 h => ?_)
        · refine k_iload C dX6_climb_127 0 rfl 129 rfl ?_
          exact k_iret C dX6_climb_129 ⟨x4, T_a0, U_a0, rfl, rfl, h⟩
      · have h := hf hc46; clear ht hf
        refine k_iload C dX6_climb_49 0 rfl 51 rfl ?_
        exact k_iret C dX6_climb_51 ⟨max x2 (((4 * r16) + 3) - x1), T_a0, U_a0, rfl, rfl, h⟩
    · have h := hf hc10; clear ht hf
      refine k_iload_n C dX6_climb_13 2 rfl rfl 14 rfl ?_
      exact k_iret C dX6_climb_14 ⟨x2, T_a0, U_a0, rfl, rfl, h⟩
