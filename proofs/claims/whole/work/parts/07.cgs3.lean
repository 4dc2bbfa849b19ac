/-! X6_high -/
abbrev rm_X6_high : Room := { frames := 11, cells := 0, slots := 0, locals := 321 }
theorem sg_X6_high : yX6_high.cls ≠ "java/lang/invoke/MethodHandle" ∧ yX6_high.cls ≠ "java/lang/invoke/VarHandle" ∧ (parseMethodDescriptor yX6_high.desc).map (fun d => d.parameters.length) = some 1 := by decide +kernel
theorem hin_X6_high_6 : ∀ w ∈ wsX60, w ∈ wsX6_high := fun _ h => List.mem_cons_of_mem _ (List.mem_append_left _ (List.mem_append_right _ h))
def rp_X6_high (cI cJ cZ : ClassId) (qh : Nat → Nat) (qn : Nat → Nat) (qr : Nat → Nat) (qs : Nat → Nat) (qp : Nat → Nat) (qi : Nat → Nat) (qj : Nat → Nat) (qw : Nat → Nat) (qo : Nat → Nat) (S_n : gWS) (T_n : gWT) (U_n : gWU) (Q : Int → gWS → gWT → gWU → Prop) : Option Value → va_W → Prop := fun v w1 => ∃ (r : Int) (S_r : gWS) (T_r : gWT) (U_r : gWU), v = some (.int (iI r)) ∧ w1 = (wdX cI cJ cZ qh qn qr qs qp qi qj qw qo ) ++ (wdW cI cJ cZ qn S_n T_n U_n) ++ (wdW cI cJ cZ qr S_r T_r U_r) ∧ Q r S_r T_r U_r
def wp_X6_high (S_n : gWS) (T_n : gWT) (S_r : gWS) (T_r : gWT) (U_r : gWU) (x1 : Int) (Q : Int → gWS → gWT → gWU → Prop) : Prop :=
    wp_X6_isOutside x1 0 1 (fun (r3 : Int) => ((r3 = 0 → wp_X5_freeGuests S_n T_n (fun (r16 : Int) => wp_J6_bitCount_0f7a4 r16 (fun (r19 : Int) => rI r19 ∧ ((r19 ≤ 3 → wp_X5_become S_r T_r S_n T_n (fun (S_r_37 : gWS) (T_r_37 : gWT) => wp_X6_climb 6 S_r_37 T_r_37 U_r 0 0 (fun (r46 : Int) (T_r_46 : gWT) (U_r_46 : gWU) => rI x1 ∧ ((¬ x1 = 0 → rI r46 ∧ Q (3 - (r46.tmod 4)) S_r_37 T_r_46 U_r_46) ∧ (¬ (¬ x1 = 0) → rI r46 ∧ Q (r46.tdiv 4) S_r_37 T_r_46 U_r_46))))) ∧ (¬ (r19 ≤ 3) → Q (-4) S_r T_r U_r))))) ∧ (¬ (r3 = 0) → Q (-2) S_r T_r U_r)))

set_option maxHeartbeats 4000000 in
set_option maxRecDepth 20000 in
theorem c_X6_high {l : Launch} {D : va_G} {cI cJ cZ : ClassId} (qh : Nat → Nat) (qn : Nat → Nat) (qr : Nat → Nat) (qs : Nat → Nat) (qp : Nat → Nat) (qi : Nat → Nat) (qj : Nat → Nat) (qw : Nat → Nat) (qo : Nat → Nat) (S_n : gWS) (T_n : gWT) (U_n : gWU) (S_r : gWS) (T_r : gWT) (U_r : gWU) (x1 : Int) (Q : Int → gWS → gWT → gWU → Prop) (h : wp_X6_high S_n T_n S_r T_r U_r x1 Q) : KM l D (kT cI cJ cZ) 0 0 yX6_high wsX6_high rm_X6_high [.ref (qh 0), .int (iI x1)] ((wdX cI cJ cZ qh qn qr qs qp qi qj qw qo ) ++ (wdW cI cJ cZ qn S_n T_n U_n) ++ (wdW cI cJ cZ qr S_r T_r U_r)) (rp_X6_high cI cJ cZ qh qn qr qs qp qi qj qw qo S_n T_n U_n Q) := by
  refine KM_intro (lv := [(0, .ref (qh 0)), (1, .int (iI x1))]) false rfl (by decide) (Nat.le_of_ble_eq_true rfl) rfl (fun h => absurd h (by decide)) (fun v ws hq => by obtain ⟨r, S_r, T_r, U_r, rfl, rfl, _⟩ := hq; exact Or.inr (Or.inl ⟨rfl, _, rfl⟩)) (fun A K C => ?_)
  refine k_iload_n C dX6_high_0 1 rfl rfl 1 rfl ?_
  refine k_iconst C dX6_high_1 2 rfl ?_
  refine k_iconst C dX6_high_2 3 rfl ?_
  have hM := c_X6_isOutside (l := l) (D := D) (cI := cI) (cJ := cJ) (cZ := cZ) x1 0 1 _ h
  refine k_callS C dX6_high_3 hM gX6_high_X6_isOutside rfl sg_X6_isOutside rfl (Nat.le_of_ble_eq_true rfl) ⟨⟨rfl, rfl⟩, by decide, by decide⟩ ⟨Nat.le_refl 0, Nat.le_refl 0⟩ [] [0, 1, 2, 3, 4, 5, 6, 7, 8, 9, 10, 11, 12, 13, 14, 15, 16, 17, 18] rfl rfl rfl rfl (by decide) 0 0 ⟨rfl, rfl⟩ 6 rfl (fun v w1 hq3 => ?_)
  obtain ⟨r3, rfl, rfl, hb3, h⟩ := hq3
  refine k_perm C [0, 1, 2, 3, 4, 5, 6, 7, 8, 9, 10, 11, 12, 13, 14, 15, 16, 17, 18] [.int (iI r3)] ((wdX cI cJ cZ qh qn qr qs qp qi qj qw qo ) ++ (wdW cI cJ cZ qn S_n T_n U_n) ++ (wdW cI cJ cZ qr S_r T_r U_r)) rfl rfl rfl ?_
  obtain ⟨ht, hf⟩ := h
  refine k_if_eq C dX6_high_6 (by rcases hb3 with rfl | rfl <;> decide) 12 9 (by decide) rfl (fun hc6 => ?_) (fun hc6 => ?_)
  · have h := ht hc6; clear ht hf
    refine k_aload_n C dX6_high_12 0 rfl rfl 13 rfl ?_
    refine k_get C dX6_high_13 0 rfl (ci := 6) rfl hin_X6_high_6 0 (by decide) (List.mem_of_getElem? (i := 1) rfl) rfl 16 rfl ?_
    have hM := c_X5_freeGuests (l := l) (D := D) (cI := cI) (cJ := cJ) (cZ := cZ) qn S_n T_n U_n _ h
    refine k_callV C dX6_high_16 hM gX6_high_X5_freeGuests rfl sg_X5_freeGuests 5 rfl rfl rfl (Nat.le_of_ble_eq_true rfl) ⟨⟨rfl, rfl⟩, by decide, by decide⟩ ⟨Nat.le_refl 0, Nat.le_refl 0⟩ [1, 2, 3, 4, 5, 6, 7, 8, 9] [0, 10, 11, 12, 13, 14, 15, 16, 17, 18] rfl rfl rfl rfl (by decide) 0 0 ⟨rfl, rfl⟩ 19 rfl (fun v w1 hq16 => ?_)
    obtain ⟨r16, rfl, rfl, h⟩ := hq16
    refine k_perm C [0, 10, 11, 12, 13, 14, 15, 16, 17, 18, 1, 2, 3, 4, 5, 6, 7, 8, 9] [.int (iI r16)] ((wdX cI cJ cZ qh qn qr qs qp qi qj qw qo ) ++ (wdW cI cJ cZ qn S_n T_n U_n) ++ (wdW cI cJ cZ qr S_r T_r U_r)) rfl rfl rfl ?_
    have hM := c_J6_bitCount_0f7a4 (l := l) (D := D) (cI := cI) (cJ := cJ) (cZ := cZ) r16 _ h
    refine k_callS C dX6_high_19 hM gX6_high_J6_bitCount_0f7a4 rfl sg_J6_bitCount_0f7a4 rfl (Nat.le_of_ble_eq_true rfl) ⟨⟨rfl, rfl⟩, by decide, by decide⟩ ⟨Nat.le_refl 0, Nat.le_refl 0⟩ [] [0, 1, 2, 3, 4, 5, 6, 7, 8, 9, 10, 11, 12, 13, 14, 15, 16, 17, 18] rfl rfl rfl rfl (by decide) 0 0 ⟨rfl, rfl⟩ 22 rfl (fun v w1 hq19 => ?_)
    obtain ⟨r19, rfl, rfl, h⟩ := hq19
    refine k_perm C [0, 1, 2, 3, 4, 5, 6, 7, 8, 9, 10, 11, 12, 13, 14, 15, 16, 17, 18] [.int (iI r19)] ((wdX cI cJ cZ qh qn qr qs qp qi qj qw qo ) ++ (wdW cI cJ cZ qn S_n T_n U_n) ++ (wdW cI cJ cZ qr S_r T_r U_r)) rfl rfl rfl ?_
    refine k_iconst C dX6_high_22 23 rfl ?_
    obtain ⟨hr23a, h⟩ := h
    obtain ⟨ht, hf⟩ := h
    refine k_icmp_le C dX6_high_23 ⟨hr23a, (by decide)⟩ 29 26 (by decide) rfl (fun hc23 => ?_) (fun hc23 => ?_)
    · have h := ht hc23; clear ht hf
      refine k_aload_n C dX6_high_29 0 rfl rfl 30 rfl ?_
      refine k_get C dX6_high_30 0 rfl (ci := 6) rfl hin_X6_high_6 1 (by decide) (List.mem_of_getElem? (i := 2) rfl) rfl 33 rfl ?_
      refine k_aload_n C dX6_high_33 0 rfl rfl 34 rfl ?_
      refine k_get C dX6_high_34 0 rfl (ci := 6) rfl hin_X6_high_6 0 (by decide) (List.mem_of_getElem? (i := 1) rfl) rfl 37 rfl ?_
      have hM := c_X5_become (l := l) (D := D) (cI := cI) (cJ := cJ) (cZ := cZ) qr qn S_r T_r U_r S_n T_n U_n _ h
      refine k_callV C dX6_high_37 hM gX6_high_X5_become rfl sg_X5_become 5 rfl rfl rfl (Nat.le_of_ble_eq_true rfl) ⟨⟨rfl, rfl⟩, by decide, by decide⟩ ⟨Nat.le_refl 0, Nat.le_refl 0⟩ [10, 11, 12, 13, 14, 15, 16, 17, 18, 1, 2, 3, 4, 5, 6, 7, 8, 9] [0] rfl rfl rfl rfl (by decide) 0 0 ⟨rfl, rfl⟩ 40 rfl (fun v w1 hq37 => ?_)
      obtain ⟨S_r_37, T_r_37, rfl, rfl, h⟩ := hq37
      refine k_perm C [0, 10, 11, 12, 13, 14, 15, 16, 17, 18, 1, 2, 3, 4, 5, 6, 7, 8, 9] [] ((wdX cI cJ cZ qh qn qr qs qp qi qj qw qo ) ++ (wdW cI cJ cZ qn S_n T_n U_n) ++ (wdW cI cJ cZ qr S_r_37 T_r_37 U_r)) rfl rfl rfl ?_
      refine k_aload_n C dX6_high_40 0 rfl rfl 41 rfl ?_
      refine k_get C dX6_high_41 0 rfl (ci := 6) rfl hin_X6_high_6 1 (by decide) (List.mem_of_getElem? (i := 2) rfl) rfl 44 rfl ?_
      refine k_iconst C dX6_high_44 45 rfl ?_
      refine k_iconst C dX6_high_45 46 rfl ?_
      have hM := c_X6_climb (l := l) (D := D) (cI := cI) (cJ := cJ) (cZ := cZ) 6 qr S_r_37 T_r_37 U_r 0 0 _ h
      refine k_callS C dX6_high_46 hM gX6_high_X6_climb rfl sg_X6_climb rfl (Nat.le_of_ble_eq_true rfl) ⟨⟨rfl, rfl⟩, by decide, by decide⟩ ⟨Nat.le_refl 0, Nat.le_refl 0⟩ [10, 11, 12, 13, 14, 15, 16, 17, 18] [0, 1, 2, 3, 4, 5, 6, 7, 8, 9] rfl rfl rfl rfl (by decide) 0 0 ⟨rfl, rfl⟩ 49 rfl (fun v w1 hq46 => ?_)
      obtain ⟨r46, T_r_46, U_r_46, rfl, rfl, h⟩ := hq46
      refine k_perm C [0, 1, 2, 3, 4, 5, 6, 7, 8, 9, 10, 11, 12, 13, 14, 15, 16, 17, 18] [.int (iI r46)] ((wdX cI cJ cZ qh qn qr qs qp qi qj qw qo ) ++ (wdW cI cJ cZ qn S_n T_n U_n) ++ (wdW cI cJ cZ qr S_r_37 T_r_46 U_r_46)) rfl rfl rfl ?_
      refine k_istore_n C dX6_high_49 rfl (by decide) [(2, .int (iI r46)), (0, .ref (qh 0)), (1, .int (iI x1))] rfl 50 rfl ?_
      refine k_iload_n C dX6_high_50 2 rfl rfl 51 rfl ?_
      obtain ⟨hr51a, h⟩ := h
      obtain ⟨ht, hf⟩ := h
      refine k_if_ne C dX6_high_51 hr51a 60 54 (by decide) rfl (fun hc51 => ?_) (fun hc51 => ?_)
      · have h := ht hc51; clear ht hf
        refine k_iconst C dX6_high_60 61 rfl ?_
        refine k_iload_n C dX6_high_61 0 rfl rfl 62 rfl ?_
        refine k_iconst C dX6_high_62 63 rfl ?_
        obtain ⟨hr63a, h⟩ := h
        refine k_irem C dX6_high_63 ⟨hr63a, (by decide), (by decide)⟩ 64 rfl ?_
        refine k_isub C dX6_high_64 65 rfl ?_
        exact k_iret C dX6_high_65 ⟨3 - (r46.tmod 4), S_r_37, T_r_46, U_r_46, rfl, rfl, h⟩
      · have h := hf hc51; clear ht hf
        refine k_iload_n C dX6_high_54 0 rfl rfl 55 rfl ?_
        refine k_iconst C dX6_high_55 56 rfl ?_
        obtain ⟨hr56a, h⟩ := h
        refine k_idiv C dX6_high_56 ⟨hr56a, (by decide), (by decide)⟩ 57 rfl ?_
        refine k_goto C dX6_high_57 65 (by decide) ?_
        exact k_iret C dX6_high_65 ⟨r46.tdiv 4, S_r_37, T_r_46, U_r_46, rfl, rfl, h⟩
    · have h := hf hc23; clear ht hf
      refine k_bipush C dX6_high_26 (by decide) 28 rfl ?_
      exact k_iret C dX6_high_28 ⟨(-4), S_r, T_r, U_r, rfl, rfl, h⟩
  · have h := hf hc6; clear ht hf
    refine k_bipush C dX6_high_9 (by decide) 11 rfl ?_
    exact k_iret C dX6_high_11 ⟨(-2), S_r, T_r, U_r, rfl, rfl, h⟩

/-! X6_fallenWithout -/
abbrev rm_X6_fallenWithout : Room := { frames := 5, cells := 0, slots := 0, locals := 154 }
theorem sg_X6_fallenWithout : yX6_fallenWithout.cls ≠ "java/lang/invoke/MethodHandle" ∧ yX6_fallenWithout.cls ≠ "java/lang/invoke/VarHandle" ∧ (parseMethodDescriptor yX6_fallenWithout.desc).map (fun d => d.parameters.length) = some 1 := by decide +kernel
theorem hin_X6_fallenWithout_6 : ∀ w ∈ wsX60, w ∈ wsX6_fallenWithout := fun _ h => List.mem_cons_of_mem _ (List.mem_append_left _ (List.mem_append_right _ h))
def rp_X6_fallenWithout (cI cJ cZ : ClassId) (qh : Nat → Nat) (qn : Nat → Nat) (qr : Nat → Nat) (qs : Nat → Nat) (qp : Nat → Nat) (qi : Nat → Nat) (qj : Nat → Nat) (qw : Nat → Nat) (qo : Nat → Nat) (S_n : gWS) (T_n : gWT) (U_n : gWU) (Q : Int → gWS → gWT → gWU → Prop) : Option Value → va_W → Prop := fun v w1 => ∃ (r : Int) (S_r : gWS) (T_r : gWT) (U_r : gWU), v = some (.int (iI r)) ∧ w1 = (wdX cI cJ cZ qh qn qr qs qp qi qj qw qo ) ++ (wdW cI cJ cZ qn S_n T_n U_n) ++ (wdW cI cJ cZ qr S_r T_r U_r) ∧ Q r S_r T_r U_r
def wp_X6_fallenWithout (S_n : gWS) (T_n : gWT) (S_r : gWS) (T_r : gWT) (U_r : gWU) (x1 : Int) (Q : Int → gWS → gWT → gWU → Prop) : Prop :=
    wp_X5_become S_r T_r S_n T_n (fun (S_r_8 : gWS) (T_r_8 : gWT) => wp_X5_liftAll S_r_8 T_r_8 x1 (fun (T_r_16 : gWT) => wp_X5_collapse S_r_8 T_r_16 U_r (fun (r23 : Int) (T_r_23 : gWT) (U_r_23 : gWU) => Q r23 S_r_8 T_r_23 U_r_23)))

set_option maxHeartbeats 4000000 in
set_option maxRecDepth 20000 in
theorem c_X6_fallenWithout {l : Launch} {D : va_G} {cI cJ cZ : ClassId} (qh : Nat → Nat) (qn : Nat → Nat) (qr : Nat → Nat) (qs : Nat → Nat) (qp : Nat → Nat) (qi : Nat → Nat) (qj : Nat → Nat) (qw : Nat → Nat) (qo : Nat → Nat) (S_n : gWS) (T_n : gWT) (U_n : gWU) (S_r : gWS) (T_r : gWT) (U_r : gWU) (x1 : Int) (Q : Int → gWS → gWT → gWU → Prop) (h : wp_X6_fallenWithout S_n T_n S_r T_r U_r x1 Q) : KM l D (kT cI cJ cZ) 0 0 yX6_fallenWithout wsX6_fallenWithout rm_X6_fallenWithout [.ref (qh 0), .int (iI x1)] ((wdX cI cJ cZ qh qn qr qs qp qi qj qw qo ) ++ (wdW cI cJ cZ qn S_n T_n U_n) ++ (wdW cI cJ cZ qr S_r T_r U_r)) (rp_X6_fallenWithout cI cJ cZ qh qn qr qs qp qi qj qw qo S_n T_n U_n Q) := by
  refine KM_intro (lv := [(0, .ref (qh 0)), (1, .int (iI x1))]) false rfl (by decide) (Nat.le_of_ble_eq_true rfl) rfl (fun h => absurd h (by decide)) (fun v ws hq => by obtain ⟨r, S_r, T_r, U_r, rfl, rfl, _⟩ := hq; exact Or.inr (Or.inl ⟨rfl, _, rfl⟩)) (fun A K C => ?_)
  refine k_aload_n C dX6_fallenWithout_0 0 rfl rfl 1 rfl ?_
  refine k_get C dX6_fallenWithout_1 0 rfl (ci := 6) rfl hin_X6_fallenWithout_6 1 (by decide) (List.mem_of_getElem? (i := 1) rfl) rfl 4 rfl ?_
  refine k_aload_n C dX6_fallenWithout_4 0 rfl rfl 5 rfl ?_
  refine k_get C dX6_fallenWithout_5 0 rfl (ci := 6) rfl hin_X6_fallenWithout_6 0 (by decide) (List.mem_of_getElem? (i := 2) rfl) rfl 8 rfl ?_
  have hM := c_X5_become (l := l) (D := D) (cI := cI) (cJ := cJ) (cZ := cZ) qr qn S_r T_r U_r S_n T_n U_n _ h
  refine k_callV C dX6_fallenWithout_8 hM gX6_fallenWithout_X5_become rfl sg_X5_become 5 rfl rfl rfl (Nat.le_of_ble_eq_true rfl) ⟨⟨rfl, rfl⟩, by decide, by decide⟩ ⟨Nat.le_refl 0, Nat.le_refl 0⟩ [10, 11, 12, 13, 14, 15, 16, 17, 18, 1, 2, 3, 4, 5, 6, 7, 8, 9] [0] rfl rfl rfl rfl (by decide) 0 0 ⟨rfl, rfl⟩ 11 rfl (fun v w1 hq8 => ?_)
  obtain ⟨S_r_8, T_r_8, rfl, rfl, h⟩ := hq8
  refine k_perm C [0, 10, 11, 12, 13, 14, 15, 16, 17, 18, 1, 2, 3, 4, 5, 6, 7, 8, 9] [] ((wdX cI cJ cZ qh qn qr qs qp qi qj qw qo ) ++ (wdW cI cJ cZ qn S_n T_n U_n) ++ (wdW cI cJ cZ qr S_r_8 T_r_8 U_r)) rfl rfl rfl ?_
  refine k_aload_n C dX6_fallenWithout_11 0 rfl rfl 12 rfl ?_
  refine k_get C dX6_fallenWithout_12 0 rfl (ci := 6) rfl hin_X6_fallenWithout_6 1 (by decide) (List.mem_of_getElem? (i := 1) rfl) rfl 15 rfl ?_
  refine k_iload_n C dX6_fallenWithout_15 1 rfl rfl 16 rfl ?_
  have hM := c_X5_liftAll (l := l) (D := D) (cI := cI) (cJ := cJ) (cZ := cZ) qr S_r_8 T_r_8 U_r x1 _ h
  refine k_callV C dX6_fallenWithout_16 hM gX6_fallenWithout_X5_liftAll rfl sg_X5_liftAll 5 rfl rfl rfl (Nat.le_of_ble_eq_true rfl) ⟨⟨rfl, rfl⟩, by decide, by decide⟩ ⟨Nat.le_refl 0, Nat.le_refl 0⟩ [10, 11, 12, 13, 14, 15, 16, 17, 18] [0, 1, 2, 3, 4, 5, 6, 7, 8, 9] rfl rfl rfl rfl (by decide) 0 0 ⟨rfl, rfl⟩ 19 rfl (fun v w1 hq16 => ?_)
  obtain ⟨T_r_16, rfl, rfl, h⟩ := hq16
  refine k_perm C [0, 1, 2, 3, 4, 5, 6, 7, 8, 9, 10, 11, 12, 13, 14, 15, 16, 17, 18] [] ((wdX cI cJ cZ qh qn qr qs qp qi qj qw qo ) ++ (wdW cI cJ cZ qn S_n T_n U_n) ++ (wdW cI cJ cZ qr S_r_8 T_r_16 U_r)) rfl rfl rfl ?_
  refine k_aload_n C dX6_fallenWithout_19 0 rfl rfl 20 rfl ?_
  refine k_get C dX6_fallenWithout_20 0 rfl (ci := 6) rfl hin_X6_fallenWithout_6 1 (by decide) (List.mem_of_getElem? (i := 1) rfl) rfl 23 rfl ?_
  have hM := c_X5_collapse (l := l) (D := D) (cI := cI) (cJ := cJ) (cZ := cZ) qr S_r_8 T_r_16 U_r _ h
  refine k_callV C dX6_fallenWithout_23 hM gX6_fallenWithout_X5_collapse rfl sg_X5_collapse 5 rfl rfl rfl (Nat.le_of_ble_eq_true rfl) ⟨⟨rfl, rfl⟩, by decide, by decide⟩ ⟨Nat.le_refl 0, Nat.le_refl 0⟩ [10, 11, 12, 13, 14, 15, 16, 17, 18] [0, 1, 2, 3, 4, 5, 6, 7, 8, 9] rfl rfl rfl rfl (by decide) 0 0 ⟨rfl, rfl⟩ 26 rfl (fun v w1 hq23 => ?_)
  obtain ⟨r23, T_r_23, U_r_23, rfl, rfl, h⟩ := hq23
  refine k_perm C [0, 1, 2, 3, 4, 5, 6, 7, 8, 9, 10, 11, 12, 13, 14, 15, 16, 17, 18] [.int (iI r23)] ((wdX cI cJ cZ qh qn qr qs qp qi qj qw qo ) ++ (wdW cI cJ cZ qn S_n T_n U_n) ++ (wdW cI cJ cZ qr S_r_8 T_r_23 U_r_23)) rfl rfl rfl ?_
  exact k_iret C dX6_fallenWithout_26 ⟨r23, S_r_8, T_r_23, U_r_23, rfl, rfl, h⟩

/-! X6_falls -/
abbrev rm_X6_falls : Room := { frames := 6, cells := 0, slots := 0, locals := 175 }
theorem sg_X6_falls : yX6_falls.cls ≠ "java/lang/invoke/MethodHandle" ∧ yX6_falls.cls ≠ "java/lang/invoke/VarHandle" ∧ (parseMethodDescriptor yX6_falls.desc).map (fun d => d.parameters.length) = some 1 := by decide +kernel
def rp_X6_falls (cI cJ cZ : ClassId) (qh : Nat → Nat) (qn : Nat → Nat) (qr : Nat → Nat) (qs : Nat → Nat) (qp : Nat → Nat) (qi : Nat → Nat) (qj : Nat → Nat) (qw : Nat → Nat) (qo : Nat → Nat) (S_n : gWS) (T_n : gWT) (U_n : gWU) (Q : Int → gWS → gWT → gWU → Prop) : Option Value → va_W → Prop := fun v w1 => ∃ (r : Int) (S_r : gWS) (T_r : gWT) (U_r : gWU), v = some (.int (iI r)) ∧ w1 = (wdX cI cJ cZ qh qn qr qs qp qi qj qw qo ) ++ (wdW cI cJ cZ qn S_n T_n U_n) ++ (wdW cI cJ cZ qr S_r T_r U_r) ∧ Q r S_r T_r U_r
def wp_X6_falls (S_n : gWS) (T_n : gWT) (S_r : gWS) (T_r : gWT) (U_r : gWU) (x1 : Int) (Q : Int → gWS → gWT → gWU → Prop) : Prop :=
    wp_X6_isOutside x1 0 1023 (fun (r5 : Int) => ((r5 = 0 → wp_X6_fallenWithout S_n T_n S_r T_r U_r x1 (fun (r16 : Int) (S_r_16 : gWS) (T_r_16 : gWT) (U_r_16 : gWU) => Q r16 S_r_16 T_r_16 U_r_16)) ∧ (¬ (r5 = 0) → Q (-2) S_r T_r U_r)))

set_option maxHeartbeats 4000000 in
set_option maxRecDepth 20000 in
theorem c_X6_falls {l : Launch} {D : va_G} {cI cJ cZ : ClassId} (qh : Nat → Nat) (qn : Nat → Nat) (qr : Nat → Nat) (qs : Nat → Nat) (qp : Nat → Nat) (qi : Nat → Nat) (qj : Nat → Nat) (qw : Nat → Nat) (qo : Nat → Nat) (S_n : gWS) (T_n : gWT) (U_n : gWU) (S_r : gWS) (T_r : gWT) (U_r : gWU) (x1 : Int) (Q : Int → gWS → gWT → gWU → Prop) (h : wp_X6_falls S_n T_n S_r T_r U_r x1 Q) : KM l D (kT cI cJ cZ) 0 0 yX6_falls wsX6_falls rm_X6_falls [.ref (qh 0), .int (iI x1)] ((wdX cI cJ cZ qh qn qr qs qp qi qj qw qo ) ++ (wdW cI cJ cZ qn S_n T_n U_n) ++ (wdW cI cJ cZ qr S_r T_r U_r)) (rp_X6_falls cI cJ cZ qh qn qr qs qp qi qj qw qo S_n T_n U_n Q) := by
  refine KM_intro (lv := [(0, .ref (qh 0)), (1, .int (iI x1))]) false rfl (by decide) (Nat.le_of_ble_eq_true rfl) rfl (fun h => absurd h (by decide)) (fun v ws hq => by obtain ⟨r, S_r, T_r, U_r, rfl, rfl, _⟩ := hq; exact Or.inr (Or.inl ⟨rfl, _, rfl⟩)) (fun A K C => ?_)
  refine k_iload_n C dX6_falls_0 1 rfl rfl 1 rfl ?_
  refine k_iconst C dX6_falls_1 2 rfl ?_
  refine k_sipush C dX6_falls_2 (by decide) 5 rfl ?_
  have hM := c_X6_isOutside (l := l) (D := D) (cI := cI) (cJ := cJ) (cZ := cZ) x1 0 1023 _ h
  refine k_callS C dX6_falls_5 hM gX6_falls_X6_isOutside rfl sg_X6_isOutside rfl (Nat.le_of_ble_eq_true rfl) ⟨⟨rfl, rfl⟩, by decide, by decide⟩ ⟨Nat.le_refl 0, Nat.le_refl 0⟩ [] [0, 1, 2, 3, 4, 5, 6, 7, 8, 9, 10, 11, 12, 13, 14, 15, 16, 17, 18] rfl rfl rfl rfl (by decide) 0 0 ⟨rfl, rfl⟩ 8 rfl (fun v w1 hq5 => ?_)
  obtain ⟨r5, rfl, rfl, hb5, h⟩ := hq5
  refine k_perm C [0, 1, 2, 3, 4, 5, 6, 7, 8, 9, 10, 11, 12, 13, 14, 15, 16, 17, 18] [.int (iI r5)] ((wdX cI cJ cZ qh qn qr qs qp qi qj qw qo ) ++ (wdW cI cJ cZ qn S_n T_n U_n) ++ (wdW cI cJ cZ qr S_r T_r U_r)) rfl rfl rfl ?_
  obtain ⟨ht, hf⟩ := h
  refine k_if_eq C dX6_falls_8 (by rcases hb5 with rfl | rfl <;> decide) 14 11 (by decide) rfl (fun hc8 => ?_) (fun hc8 => ?_)
  · have h := ht hc8; clear ht hf
    refine k_aload_n C dX6_falls_14 0 rfl rfl 15 rfl ?_
    refine k_iload_n C dX6_falls_15 1 rfl rfl 16 rfl ?_
    have hM := c_X6_fallenWithout (l := l) (D := D) (cI := cI) (cJ := cJ) (cZ := cZ) qh qn qr qs qp qi qj qw qo S_n T_n U_n S_r T_r U_r x1 _ h
    refine k_callV C dX6_falls_16 hM gX6_falls_X6_fallenWithout rfl sg_X6_fallenWithout 6 rfl rfl rfl (Nat.le_of_ble_eq_true rfl) ⟨⟨rfl, rfl⟩, by decide, by decide⟩ ⟨Nat.le_refl 0, Nat.le_refl 0⟩ [0, 1, 2, 3, 4, 5, 6, 7, 8, 9, 10, 11, 12, 13, 14, 15, 16, 17, 18] [] rfl rfl rfl rfl (by decide) 0 0 ⟨rfl, rfl⟩ 19 rfl (fun v w1 hq16 => ?_)
    obtain ⟨r16, S_r_16, T_r_16, U_r_16, rfl, rfl, h⟩ := hq16
    refine k_perm C [0, 1, 2, 3, 4, 5, 6, 7, 8, 9, 10, 11, 12, 13, 14, 15, 16, 17, 18] [.int (iI r16)] ((wdX cI cJ cZ qh qn qr qs qp qi qj qw qo ) ++ (wdW cI cJ cZ qn S_n T_n U_n) ++ (wdW cI cJ cZ qr S_r_16 T_r_16 U_r_16)) rfl rfl rfl ?_
    exact k_iret C dX6_falls_19 ⟨r16, S_r_16, T_r_16, U_r_16, rfl, rfl, h⟩
  · have h := hf hc8; clear ht hf
    refine k_bipush C dX6_falls_11 (by decide) 13 rfl ?_
    exact k_iret C dX6_falls_13 ⟨(-2), S_r, T_r, U_r, rfl, rfl, h⟩

/-! X6_key -/
abbrev rm_X6_key : Room := { frames := 6, cells := 0, slots := 0, locals := 175 }
theorem sg_X6_key : yX6_key.cls ≠ "java/lang/invoke/MethodHandle" ∧ yX6_key.cls ≠ "java/lang/invoke/VarHandle" ∧ (parseMethodDescriptor yX6_key.desc).map (fun d => d.parameters.length) = some 1 := by decide +kernel
theorem hin_X6_key_6 : ∀ w ∈ wsX60, w ∈ wsX6_key := fun _ h => List.mem_cons_of_mem _ (List.mem_append_left _ (List.mem_append_right _ h))
def rp_X6_key (cI cJ cZ : ClassId) (qh : Nat → Nat) (qn : Nat → Nat) (qr : Nat → Nat) (qs : Nat → Nat) (qp : Nat → Nat) (qi : Nat → Nat) (qj : Nat → Nat) (qw : Nat → Nat) (qo : Nat → Nat) (S_n : gWS) (T_n : gWT) (U_n : gWU) (Q : Int → gWS → gWT → gWU → Prop) : Option Value → va_W → Prop := fun v w1 => ∃ (r : Int) (S_r : gWS) (T_r : gWT) (U_r : gWU), v = some (.int (iI r)) ∧ w1 = (wdX cI cJ cZ qh qn qr qs qp qi qj qw qo ) ++ (wdW cI cJ cZ qn S_n T_n U_n) ++ (wdW cI cJ cZ qr S_r T_r U_r) ∧ Q r S_r T_r U_r
def wp_X6_key_21 (S_n : gWS) (T_n : gWT) (K_71 : Int → Int → Int → gWS → gWT → gWU → Prop)  (Q : Int → gWS → gWT → gWU → Prop) : Nat → Int → Int → Int → Int → gWS → gWT → gWU → Prop
  | 0, _, _, _, _, _, _, _ => False
  | n21 + 1, x1, x2, x3, x4, S_r, T_r, U_r =>
    rI x4 ∧ ((10 ≤ x4 → K_71 x1 x2 x3 S_r T_r U_r) ∧ (¬ (10 ≤ x4) → wp_X5_isLaid T_n x4 (fun (r34 : Int) => ((r34 = 0 → wp_X6_key_21 S_n T_n K_71 Q n21 x1 x2 x3 (x4 + 1) S_r T_r U_r) ∧ (¬ (r34 = 0) → wp_X6_fallenWithout S_n T_n S_r T_r U_r (ishl 1 x4) (fun (r45 : Int) (S_r_45 : gWS) (T_r_45 : gWT) (U_r_45 : gWU) => wp_J6_bitCount_0f7a4 r45 (fun (r48 : Int) => rI r48 ∧ rI x3 ∧ ((r48 ≤ x3 → wp_X6_key_21 S_n T_n K_71 Q n21 x1 x2 x3 (x4 + 1) S_r_45 T_r_45 U_r_45) ∧ (¬ (r48 ≤ x3) → wp_X6_key_21 S_n T_n K_71 Q n21 x1 x4 r48 (x4 + 1) S_r_45 T_r_45 U_r_45)))))))))
def wp_X6_key (S_n : gWS) (T_n : gWT) (S_r : gWS) (T_r : gWT) (U_r : gWU) (x1 : Int) (Q : Int → gWS → gWT → gWU → Prop) : Prop :=
    wp_X6_isOutside x1 0 1 (fun (r3 : Int) => ((r3 = 0 → ∃ m21, wp_X6_key_21 S_n T_n (fun (x1 : Int) (x2 : Int) (x3 : Int) (S_r : gWS) (T_r : gWT) (U_r : gWU) => rI x1 ∧ ((¬ x1 = 0 → Q x3 S_r T_r U_r) ∧ (¬ (¬ x1 = 0) → Q x2 S_r T_r U_r))) Q m21 x1 (-6) (-6) 0 S_r T_r U_r) ∧ (¬ (r3 = 0) → Q (-2) S_r T_r U_r)))
set_option maxHeartbeats 4000000 in
set_option maxRecDepth 20000 in
theorem w_X6_key_21 {l : Launch} {D : va_G} {cI cJ cZ : ClassId} {A : Nat → Prop} {K : KT} {qh : Nat → Nat} {qn : Nat → Nat} {qr : Nat → Nat} {qs : Nat → Nat} {qp : Nat → Nat} {qi : Nat → Nat} {qj : Nat → Nat} {qw : Nat → Nat} {qo : Nat → Nat} {S_n : gWS} {T_n : gWT} {U_n : gWU} {Q : Int → gWS → gWT → gWU → Prop} {K_71 : Int → Int → Int → gWS → gWT → gWU → Prop} (C : KC cX6_key yX6_key.cls wsX6_key rm_X6_key 6 D (kT cI cJ cZ) A l false (rp_X6_key cI cJ cZ qh qn qr qs qp qi qj qw qo S_n T_n U_n Q) 0 0 K) : ∀ (n : Nat) (x1 : Int) (x2 : Int) (x3 : Int) (x4 : Int) (S_r : gWS) (T_r : gWT) (U_r : gWU), wp_X6_key_21 S_n T_n K_71 Q n x1 x2 x3 x4 S_r T_r U_r → (∀ (x1 : Int) (x2 : Int) (x3 : Int) (S_r : gWS) (T_r : gWT) (U_r : gWU), K_71 x1 x2 x3 S_r T_r U_r → K 0 0 71 [(1, .int (iI x1)), (2, .int (iI x2)), (3, .int (iI x3))] [] ((wdX cI cJ cZ qh qn qr qs qp qi qj qw qo ) ++ (wdW cI cJ cZ qn S_n T_n U_n) ++ (wdW cI cJ cZ qr S_r T_r U_r))) → K 0 0 21 [(0, .ref (qh 0)), (1, .int (iI x1)), (2, .int (iI x2)), (3, .int (iI x3)), (4, .int (iI x4))] [] ((wdX cI cJ cZ qh qn qr qs qp qi qj qw qo ) ++ (wdW cI cJ cZ qn S_n T_n U_n) ++ (wdW cI cJ cZ qr S_r T_r U_r)) := by
  intro n
  induction n with
  | zero => intro x1 x2 x3 x4 S_r T_r U_r h; exact h.elim
  | succ n ih =>
    intro x1 x2 x3 x4 S_r T_r U_r h hK_71
    refine k_iload C dX6_key_21 4 rfl 23 rfl ?_
    refine k_bipush C dX6_key_23 (by decide) 25 rfl ?_
    obtain ⟨hr25a, h⟩ := h
    obtain ⟨ht, hf⟩ := h
    refine k_icmp_ge C dX6_key_25 ⟨hr25a, (by decide)⟩ 71 28 (by decide) rfl (fun hc25 => ?_) (fun hc25 => ?_)
    · have h := ht hc25; clear ht hf
      refine k_lv C [1, 2, 3] [(1, .int (iI x1)), (2, .int (iI x2)), (3, .int (iI x3))] rfl ?_
      exact hK_71 x1 x2 x3 S_r T_r U_r h
    · have h := hf hc25; clear ht hf
      refine k_aload_n C dX6_key_28 0 rfl rfl 29 rfl ?_
      refine k_get C dX6_key_29 0 rfl (ci := 6) rfl hin_X6_key_6 0 (by decide) (List.mem_of_getElem? (i := 1) rfl) rfl 32 rfl ?_
      refine k_iload C dX6_key_32 4 rfl 34 rfl ?_
      have hM := c_X5_isLaid (l := l) (D := D) (cI := cI) (cJ := cJ) (cZ := cZ) qn S_n T_n U_n x4 _ h
      refine k_callV C dX6_key_34 hM gX6_key_X5_isLaid rfl sg_X5_isLaid 5 rfl rfl rfl (Nat.le_of_ble_eq_true rfl) ⟨⟨rfl, rfl⟩, by decide, by decide⟩ ⟨Nat.le_refl 0, Nat.le_refl 0⟩ [1, 2, 3, 4, 5, 6, 7, 8, 9] [0, 10, 11, 12, 13, 14, 15, 16, 17, 18] rfl rfl rfl rfl (by decide) 0 0 ⟨rfl, rfl⟩ 37 rfl (fun v w1 hq34 => ?_)
      obtain ⟨r34, rfl, rfl, hb34, h⟩ := hq34
      refine k_perm C [0, 10, 11, 12, 13, 14, 15, 16, 17, 18, 1, 2, 3, 4, 5, 6, 7, 8, 9] [.int (iI r34)] ((wdX cI cJ cZ qh qn qr qs qp qi qj qw qo ) ++ (wdW cI cJ cZ qn S_n T_n U_n) ++ (wdW cI cJ cZ qr S_r T_r U_r)) rfl rfl rfl ?_
      obtain ⟨ht, hf⟩ := h
      refine k_if_eq C dX6_key_37 (by rcases hb34 with rfl | rfl <;> decide) 65 40 (by decide) rfl (fun hc37 => ?_) (fun hc37 => ?_)
      · have h := ht hc37; clear ht hf
        refine k_iinc (j := 4) C dX6_key_65 rfl (by decide) [(4, .int (iI (x4 + 1))), (0, .ref (qh 0)), (1, .int (iI x1)), (2, .int (iI x2)), (3, .int (iI x3))] rfl 68 rfl ?_
        refine k_goto C dX6_key_68 21 (by decide) ?_
        refine k_lv C [1, 2, 3, 4, 0] [(0, .ref (qh 0)), (1, .int (iI x1)), (2, .int (iI x2)), (3, .int (iI x3)), (4, .int (iI (x4 + 1)))] rfl ?_
        exact ih x1 x2 x3 (x4 + 1) S_r T_r U_r h hK_71
      · have h := hf hc37; clear ht hf
        refine k_aload_n C dX6_key_40 0 rfl rfl 41 rfl ?_
        refine k_iconst C dX6_key_41 42 rfl ?_
        refine k_iload C dX6_key_42 4 rfl 44 rfl ?_
        refine k_ishl C dX6_key_44 45 rfl ?_
        have hM := c_X6_fallenWithout (l := l) (D := D) (cI := cI) (cJ := cJ) (cZ := cZ) qh qn qr qs qp qi qj qw qo S_n T_n U_n S_r T_r U_r (ishl 1 x4) _ h
        refine k_callV C dX6_key_45 hM gX6_key_X6_fallenWithout rfl sg_X6_fallenWithout 6 rfl rfl rfl (Nat.le_of_ble_eq_true rfl) ⟨⟨rfl, rfl⟩, by decide, by decide⟩ ⟨Nat.le_refl 0, Nat.le_refl 0⟩ [0, 1, 2, 3, 4, 5, 6, 7, 8, 9, 10, 11, 12, 13, 14, 15, 16, 17, 18] [] rfl rfl rfl rfl (by decide) 0 0 ⟨rfl, rfl⟩ 48 rfl (fun v w1 hq45 => ?_)
        obtain ⟨r45, S_r_45, T_r_45, U_r_45, rfl, rfl, h⟩ := hq45
        refine k_perm C [0, 1, 2, 3, 4, 5, 6, 7, 8, 9, 10, 11, 12, 13, 14, 15, 16, 17, 18] [.int (iI r45)] ((wdX cI cJ cZ qh qn qr qs qp qi qj qw qo ) ++ (wdW cI cJ cZ qn S_n T_n U_n) ++ (wdW cI cJ cZ qr S_r_45 T_r_45 U_r_45)) rfl rfl rfl ?_
        have hM := c_J6_bitCount_0f7a4 (l := l) (D := D) (cI := cI) (cJ := cJ) (cZ := cZ) r45 _ h
        refine k_callS C dX6_key_48 hM gX6_key_J6_bitCount_0f7a4 rfl sg_J6_bitCount_0f7a4 rfl (Nat.le_of_ble_eq_true rfl) ⟨⟨rfl, rfl⟩, by decide, by decide⟩ ⟨Nat.le_refl 0, Nat.le_refl 0⟩ [] [0, 1, 2, 3, 4, 5, 6, 7, 8, 9, 10, 11, 12, 13, 14, 15, 16, 17, 18] rfl rfl rfl rfl (by decide) 0 0 ⟨rfl, rfl⟩ 51 rfl (fun v w1 hq48 => ?_)
        obtain ⟨r48, rfl, rfl, h⟩ := hq48
        refine k_perm C [0, 1, 2, 3, 4, 5, 6, 7, 8, 9, 10, 11, 12, 13, 14, 15, 16, 17, 18] [.int (iI r48)] ((wdX cI cJ cZ qh qn qr qs qp qi qj qw qo ) ++ (wdW cI cJ cZ qn S_n T_n U_n) ++ (wdW cI cJ cZ qr S_r_45 T_r_45 U_r_45)) rfl rfl rfl ?_
        refine k_istore C dX6_key_51 (by decide) [(5, .int (iI r48)), (0, .ref (qh 0)), (1, .int (iI x1)), (2, .int (iI x2)), (3, .int (iI x3)), (4, .int (iI x4))] rfl 53 rfl ?_
        refine k_iload C dX6_key_53 0 rfl 55 rfl ?_
        refine k_iload_n C dX6_key_55 4 rfl rfl 56 rfl ?_
        obtain ⟨hr56a, hr56b, h⟩ := h
        obtain ⟨ht, hf⟩ := h
        refine k_icmp_le C dX6_key_56 ⟨hr56a, hr56b⟩ 65 59 (by decide) rfl (fun hc56 => ?_) (fun hc56 => ?_)
        · have h := ht hc56; clear ht hf
          refine k_iinc (j := 5) C dX6_key_65 rfl (by decide) [(4, .int (iI (x4 + 1))), (5, .int (iI r48)), (0, .ref (qh 0)), (1, .int (iI x1)), (2, .int (iI x2)), (3, .int (iI x3))] rfl 68 rfl ?_
          refine k_goto C dX6_key_68 21 (by decide) ?_
          refine k_lv C [2, 3, 4, 5, 0] [(0, .ref (qh 0)), (1, .int (iI x1)), (2, .int (iI x2)), (3, .int (iI x3)), (4, .int (iI (x4 + 1)))] rfl ?_
          exact ih x1 x2 x3 (x4 + 1) S_r_45 T_r_45 U_r_45 h hK_71
        · have h := hf hc56; clear ht hf
          refine k_iload C dX6_key_59 5 rfl 61 rfl ?_
          refine k_istore_n C dX6_key_61 rfl (by decide) [(2, .int (iI x4)), (5, .int (iI r48)), (0, .ref (qh 0)), (1, .int (iI x1)), (3, .int (iI x3)), (4, .int (iI x4))] rfl 62 rfl ?_
          refine k_iload C dX6_key_62 1 rfl 64 rfl ?_
          refine k_istore_n C dX6_key_64 rfl (by decide) [(3, .int (iI r48)), (2, .int (iI x4)), (5, .int (iI r48)), (0, .ref (qh 0)), (1, .int (iI x1)), (4, .int (iI x4))] rfl 65 rfl ?_
          refine k_iinc (j := 5) C dX6_key_65 rfl (by decide) [(4, .int (iI (x4 + 1))), (3, .int (iI r48)), (2, .int (iI x4)), (5, .int (iI r48)), (0, .ref (qh 0)), (1, .int (iI x1))] rfl 68 rfl ?_
          refine k_goto C dX6_key_68 21 (by decide) ?_
          refine k_lv C [4, 5, 2, 1, 0] [(0, .ref (qh 0)), (1, .int (iI x1)), (2, .int (iI x4)), (3, .int (iI r48)), (4, .int (iI (x4 + 1)))] rfl ?_
          exact ih x1 x4 r48 (x4 + 1) S_r_45 T_r_45 U_r_45 h hK_71
set_option maxHeartbeats 4000000 in
set_option maxRecDepth 20000 in
theorem c_X6_key {l : Launch} {D : va_G} {cI cJ cZ : ClassId} (qh : Nat → Nat) (qn : Nat → Nat) (qr : Nat → Nat) (qs : Nat → Nat) (qp : Nat → Nat) (qi : Nat → Nat) (qj : Nat → Nat) (qw : Nat → Nat) (qo : Nat → Nat) (S_n : gWS) (T_n : gWT) (U_n : gWU) (S_r : gWS) (T_r : gWT) (U_r : gWU) (x1 : Int) (Q : Int → gWS → gWT → gWU → Prop) (h : wp_X6_key S_n T_n S_r T_r U_r x1 Q) : KM l D (kT cI cJ cZ) 0 0 yX6_key wsX6_key rm_X6_key [.ref (qh 0), .int (iI x1)] ((wdX cI cJ cZ qh qn qr qs qp qi qj qw qo ) ++ (wdW cI cJ cZ qn S_n T_n U_n) ++ (wdW cI cJ cZ qr S_r T_r U_r)) (rp_X6_key cI cJ cZ qh qn qr qs qp qi qj qw qo S_n T_n U_n Q) := by
  refine KM_intro (lv := [(0, .ref (qh 0)), (1, .int (iI x1))]) false rfl (by decide) (Nat.le_of_ble_eq_true rfl) rfl (fun h => absurd h (by decide)) (fun v ws hq => by obtain ⟨r, S_r, T_r, U_r, rfl, rfl, _⟩ := hq; exact Or.inr (Or.inl ⟨rfl, _, rfl⟩)) (fun A K C => ?_)
  refine k_iload_n C dX6_key_0 1 rfl rfl 1 rfl ?_
  refine k_iconst C dX6_key_1 2 rfl ?_
  refine k_iconst C dX6_key_2 3 rfl ?_
  have hM := c_X6_isOutside (l := l) (D := D) (cI := cI) (cJ := cJ) (cZ := cZ) x1 0 1 _ h
  refine k_callS C dX6_key_3 hM gX6_key_X6_isOutside rfl sg_X6_isOutside rfl (Nat.le_of_ble_eq_true rfl) ⟨⟨rfl, rfl⟩, by decide, by decide⟩ ⟨Nat.le_refl 0, Nat.le_refl 0⟩ [] [0, 1, 2, 3, 4, 5, 6, 7, 8, 9, 10, 11, 12, 13, 14, 15, 16, 17, 18] rfl rfl rfl rfl (by decide) 0 0 ⟨rfl, rfl⟩ 6 rfl (fun v w1 hq3 => ?_)
  obtain ⟨r3, rfl, rfl, hb3, h⟩ := hq3
  refine k_perm C [0, 1, 2, 3, 4, 5, 6, 7, 8, 9, 10, 11, 12, 13, 14, 15, 16, 17, 18] [.int (iI r3)] ((wdX cI cJ cZ qh qn qr qs qp qi qj qw qo ) ++ (wdW cI cJ cZ qn S_n T_n U_n) ++ (wdW cI cJ cZ qr S_r T_r U_r)) rfl rfl rfl ?_
  obtain ⟨ht, hf⟩ := h
  refine k_if_eq C dX6_key_6 (by rcases hb3 with rfl | rfl <;> decide) 12 9 (by decide) rfl (fun hc6 => ?_) (fun hc6 => ?_)
  · have h := ht hc6; clear ht hf
    refine k_bipush C dX6_key_12 (by decide) 14 rfl ?_
    refine k_istore_n C dX6_key_14 rfl (by decide) [(2, .int (iI (-6))), (0, .ref (qh 0)), (1, .int (iI x1))] rfl 15 rfl ?_
    refine k_bipush C dX6_key_15 (by decide) 17 rfl ?_
    refine k_istore_n C dX6_key_17 rfl (by decide) [(3, .int (iI (-6))), (2, .int (iI (-6))), (0, .ref (qh 0)), (1, .int (iI x1))] rfl 18 rfl ?_
    refine k_iconst C dX6_key_18 19 rfl ?_
    refine k_istore C dX6_key_19 (by decide) [(4, .int (iI 0)), (3, .int (iI (-6))), (2, .int (iI (-6))), (0, .ref (qh 0)), (1, .int (iI x1))] rfl 21 rfl ?_
    refine k_lv C [3, 4, 2, 1, 0] [(0, .ref (qh 0)), (1, .int (iI x1)), (2, .int (iI (-6))), (3, .int (iI (-6))), (4, .int (iI 0))] rfl ?_
    obtain ⟨m21, h⟩ := h
    refine w_X6_key_21 C m21 x1 (-6) (-6) 0 S_r T_r U_r h (fun x1 x2 x3 S_r T_r U_r h => ?_)
    · refine k_iload_n C dX6_key_71 0 rfl rfl 72 rfl ?_
      obtain ⟨hr72a, h⟩ := h
      obtain ⟨ht, hf⟩ := h
      refine k_if_ne C dX6_key_72 hr72a 79 75 (by decide) rfl (fun hc72 => ?_) (fun hc72 => ?_)
      · have h := ht hc72; clear ht hf
        refine k_iload_n C dX6_key_79 2 rfl rfl 80 rfl ?_
        exact k_iret C dX6_key_80 ⟨x3, S_r, T_r, U_r, rfl, rfl, h⟩
      · have h := hf hc72; clear ht hf
        refine k_iload_n C dX6_key_75 1 rfl rfl 76 rfl ?_
        refine k_goto C dX6_key_76 80 (by decide) ?_
        exact k_iret C dX6_key_80 ⟨x2, S_r, T_r, U_r, rfl, rfl, h⟩
  · have h := hf hc6; clear ht hf
    refine k_bipush C dX6_key_9 (by decide) 11 rfl ?_
    exact k_iret C dX6_key_11 ⟨(-2), S_r, T_r, U_r, rfl, rfl, h⟩

/-! X6_seen -/
abbrev rm_X6_seen : Room := { frames := 2, cells := 0, slots := 0, locals := 44 }
theorem sg_X6_seen : yX6_seen.cls ≠ "java/lang/invoke/MethodHandle" ∧ yX6_seen.cls ≠ "java/lang/invoke/VarHandle" ∧ (parseMethodDescriptor yX6_seen.desc).map (fun d => d.parameters.length) = some 2 := by decide +kernel
theorem hin_X6_seen_4 : ∀ w ∈ wsX40, w ∈ wsX6_seen := fun _ h => List.mem_cons_of_mem _ (List.mem_append_left _ (List.mem_append_right _ h))
theorem hin_X6_seen_6 : ∀ w ∈ wsX60, w ∈ wsX6_seen := fun _ h => List.mem_cons_of_mem _ (List.mem_append_left _ (List.mem_append_left _ (List.mem_append_right _ h)))
def rp_X6_seen (cI cJ cZ : ClassId) (qh : Nat → Nat) (qn : Nat → Nat) (qr : Nat → Nat) (qs : Nat → Nat) (qp : Nat → Nat) (qi : Nat → Nat) (qj : Nat → Nat) (qw : Nat → Nat) (qo : Nat → Nat) (S_n : gWS) (T_n : gWT) (U_n : gWU) (Q : Int → gGG → Prop) : Option Value → va_W → Prop := fun v w1 => ∃ (r : Int) (G_s : gGG), v = some (.int (iI r)) ∧ w1 = (wdX cI cJ cZ qh qn qr qs qp qi qj qw qo ) ++ (wdW cI cJ cZ qn S_n T_n U_n) ++ (wdG cI cJ cZ qs G_s) ∧ Q r G_s
def wp_X6_seen (S_n : gWS) (G_s : gGG) (x1 : Int) (x2 : Int) (Q : Int → gGG → Prop) : Prop :=
    wp_X6_isNoColumn S_n x1 (fun (r2 : Int) => ((r2 = 0 → wp_X6_isOutside x2 0 10 (fun (r14 : Int) => ((r14 = 0 → rI G_s.1 ∧ ((G_s.1 < 8 → wp_X4_add G_s x1 x2 (fun (G_s_44 : gGG) => Q G_s_44.1 G_s_44)) ∧ (¬ (G_s.1 < 8) → Q (-4) G_s))) ∧ (¬ (r14 = 0) → Q (-2) G_s)))) ∧ (¬ (r2 = 0) → Q (-1) G_s)))

set_option maxHeartbeats 4000000 in
set_option maxRecDepth 20000 in
theorem c_X6_seen {l : Launch} {D : va_G} {cI cJ cZ : ClassId} (qh : Nat → Nat) (qn : Nat → Nat) (qr : Nat → Nat) (qs : Nat → Nat) (qp : Nat → Nat) (qi : Nat → Nat) (qj : Nat → Nat) (qw : Nat → Nat) (qo : Nat → Nat) (S_n : gWS) (T_n : gWT) (U_n : gWU) (G_s : gGG) (x1 : Int) (x2 : Int) (Q : Int → gGG → Prop) (h : wp_X6_seen S_n G_s x1 x2 Q) : KM l D (kT cI cJ cZ) 0 0 yX6_seen wsX6_seen rm_X6_seen [.ref (qh 0), .int (iI x1), .int (iI x2)] ((wdX cI cJ cZ qh qn qr qs qp qi qj qw qo ) ++ (wdW cI cJ cZ qn S_n T_n U_n) ++ (wdG cI cJ cZ qs G_s)) (rp_X6_seen cI cJ cZ qh qn qr qs qp qi qj qw qo S_n T_n U_n Q) := by
  refine KM_intro (lv := [(0, .ref (qh 0)), (1, .int (iI x1)), (2, .int (iI x2))]) false rfl (by decide) (Nat.le_of_ble_eq_true rfl) rfl (fun h => absurd h (by decide)) (fun v ws hq => by obtain ⟨r, G_s, rfl, rfl, _⟩ := hq; exact Or.inr (Or.inl ⟨rfl, _, rfl⟩)) (fun A K C => ?_)
  refine k_aload_n C dX6_seen_0 0 rfl rfl 1 rfl ?_
  refine k_iload_n C dX6_seen_1 1 rfl rfl 2 rfl ?_
  have hM := c_X6_isNoColumn (l := l) (D := D) (cI := cI) (cJ := cJ) (cZ := cZ) qh qn qr qs qp qi qj qw qo S_n T_n U_n x1 _ h
  refine k_callV C dX6_seen_2 hM gX6_seen_X6_isNoColumn rfl sg_X6_isNoColumn 6 rfl rfl rfl (Nat.le_of_ble_eq_true rfl) ⟨⟨rfl, rfl⟩, by decide, by decide⟩ ⟨Nat.le_refl 0, Nat.le_refl 0⟩ [0, 1, 2, 3, 4, 5, 6, 7, 8, 9] [10, 11, 12] rfl rfl rfl rfl (by decide) 0 0 ⟨rfl, rfl⟩ 5 rfl (fun v w1 hq2 => ?_)
  obtain ⟨r2, rfl, rfl, hb2, h⟩ := hq2
  refine k_perm C [3, 4, 5, 6, 7, 8, 9, 10, 11, 12, 0, 1, 2] [.int (iI r2)] ((wdX cI cJ cZ qh qn qr qs qp qi qj qw qo ) ++ (wdW cI cJ cZ qn S_n T_n U_n) ++ (wdG cI cJ cZ qs G_s)) rfl rfl rfl ?_
  obtain ⟨ht, hf⟩ := h
  refine k_if_eq C dX6_seen_5 (by rcases hb2 with rfl | rfl <;> decide) 10 8 (by decide) rfl (fun hc5 => ?_) (fun hc5 => ?_)
  · have h := ht hc5; clear ht hf
    refine k_iload_n C dX6_seen_10 2 rfl rfl 11 rfl ?_
    refine k_iconst C dX6_seen_11 12 rfl ?_
    refine k_bipush C dX6_seen_12 (by decide) 14 rfl ?_
    have hM := c_X6_isOutside (l := l) (D := D) (cI := cI) (cJ := cJ) (cZ := cZ) x2 0 10 _ h
    refine k_callS C dX6_seen_14 hM gX6_seen_X6_isOutside rfl sg_X6_isOutside rfl (Nat.le_of_ble_eq_true rfl) ⟨⟨rfl, rfl⟩, by decide, by decide⟩ ⟨Nat.le_refl 0, Nat.le_refl 0⟩ [] [0, 1, 2, 3, 4, 5, 6, 7, 8, 9, 10, 11, 12] rfl rfl rfl rfl (by decide) 0 0 ⟨rfl, rfl⟩ 17 rfl (fun v w1 hq14 => ?_)
    obtain ⟨r14, rfl, rfl, hb14, h⟩ := hq14
    refine k_perm C [0, 1, 2, 3, 4, 5, 6, 7, 8, 9, 10, 11, 12] [.int (iI r14)] ((wdX cI cJ cZ qh qn qr qs qp qi qj qw qo ) ++ (wdW cI cJ cZ qn S_n T_n U_n) ++ (wdG cI cJ cZ qs G_s)) rfl rfl rfl ?_
    obtain ⟨ht, hf⟩ := h
    refine k_if_eq C dX6_seen_17 (by rcases hb14 with rfl | rfl <;> decide) 23 20 (by decide) rfl (fun hc17 => ?_) (fun hc17 => ?_)
    · have h := ht hc17; clear ht hf
      refine k_aload_n C dX6_seen_23 0 rfl rfl 24 rfl ?_
      refine k_get C dX6_seen_24 0 rfl (ci := 6) rfl hin_X6_seen_6 2 (by decide) (List.mem_of_getElem? (i := 1) rfl) rfl 27 rfl ?_
      refine k_getN C dX6_seen_27 10 rfl (ci := 4) rfl hin_X6_seen_4 0 (by decide) (List.mem_of_getElem? (i := 13) rfl) rfl 30 rfl ?_
      refine k_bipush C dX6_seen_30 (by decide) 32 rfl ?_
      obtain ⟨hr32a, h⟩ := h
      obtain ⟨ht, hf⟩ := h
      refine k_icmp_lt C dX6_seen_32 ⟨hr32a, (by decide)⟩ 38 35 (by decide) rfl (fun hc32 => ?_) (fun hc32 => ?_)
      · have h := ht hc32; clear ht hf
        refine k_aload_n C dX6_seen_38 0 rfl rfl 39 rfl ?_
        refine k_get C dX6_seen_39 0 rfl (ci := 6) rfl hin_X6_seen_6 2 (by decide) (List.mem_of_getElem? (i := 1) rfl) rfl 42 rfl ?_
        refine k_iload_n C dX6_seen_42 1 rfl rfl 43 rfl ?_
        refine k_iload_n C dX6_seen_43 2 rfl rfl 44 rfl ?_
        have hM := c_X4_add (l := l) (D := D) (cI := cI) (cJ := cJ) (cZ := cZ) qs G_s x1 x2 _ h
        refine k_callV C dX6_seen_44 hM gX6_seen_X4_add rfl sg_X4_add 4 rfl rfl rfl (Nat.le_of_ble_eq_true rfl) ⟨⟨rfl, rfl⟩, by decide, by decide⟩ ⟨Nat.le_refl 0, Nat.le_refl 0⟩ [10, 11, 12] [0, 1, 2, 3, 4, 5, 6, 7, 8, 9] rfl rfl rfl rfl (by decide) 0 0 ⟨rfl, rfl⟩ 47 rfl (fun v w1 hq44 => ?_)
        obtain ⟨G_s_44, rfl, rfl, h⟩ := hq44
        refine k_perm C [0, 1, 2, 3, 4, 5, 6, 7, 8, 9, 10, 11, 12] [] ((wdX cI cJ cZ qh qn qr qs qp qi qj qw qo ) ++ (wdW cI cJ cZ qn S_n T_n U_n) ++ (wdG cI cJ cZ qs G_s_44)) rfl rfl rfl ?_
        refine k_aload_n C dX6_seen_47 0 rfl rfl 48 rfl ?_
        refine k_get C dX6_seen_48 0 rfl (ci := 6) rfl hin_X6_seen_6 2 (by decide) (List.mem_of_getElem? (i := 1) rfl) rfl 51 rfl ?_
        refine k_getN C dX6_seen_51 10 rfl (ci := 4) rfl hin_X6_seen_4 0 (by decide) (List.mem_of_getElem? (i := 13) rfl) rfl 54 rfl ?_
        exact k_iret C dX6_seen_54 ⟨G_s_44.1, G_s_44, rfl, rfl, h⟩
      · have h := hf hc32; clear ht hf
        refine k_bipush C dX6_seen_35 (by decide) 37 rfl ?_
        exact k_iret C dX6_seen_37 ⟨(-4), G_s, rfl, rfl, h⟩
    · have h := hf hc17; clear ht hf
      refine k_bipush C dX6_seen_20 (by decide) 22 rfl ?_
      exact k_iret C dX6_seen_22 ⟨(-2), G_s, rfl, rfl, h⟩
  · have h := hf hc5; clear ht hf
    refine k_iconst C dX6_seen_8 9 rfl ?_
    exact k_iret C dX6_seen_9 ⟨(-1), G_s, rfl, rfl, h⟩

/-! X6_forget -/
abbrev rm_X6_forget : Room := { frames := 0, cells := 0, slots := 0, locals := 0 }
theorem sg_X6_forget : yX6_forget.cls ≠ "java/lang/invoke/MethodHandle" ∧ yX6_forget.cls ≠ "java/lang/invoke/VarHandle" ∧ (parseMethodDescriptor yX6_forget.desc).map (fun d => d.parameters.length) = some 0 := by decide +kernel
theorem hin_X6_forget_4 : ∀ w ∈ wsX40, w ∈ wsX6_forget := fun _ h => List.mem_cons_of_mem _ (List.mem_append_right _ h)
theorem hin_X6_forget_6 : ∀ w ∈ wsX60, w ∈ wsX6_forget := fun _ h => List.mem_cons_of_mem _ (List.mem_append_left _ (List.mem_append_right _ h))
def rp_X6_forget (cI cJ cZ : ClassId) (qh : Nat → Nat) (qn : Nat → Nat) (qr : Nat → Nat) (qs : Nat → Nat) (qp : Nat → Nat) (qi : Nat → Nat) (qj : Nat → Nat) (qw : Nat → Nat) (qo : Nat → Nat) (Q : Int → gGG → Prop) : Option Value → va_W → Prop := fun v w1 => ∃ (r : Int) (G_s : gGG), v = some (.int (iI r)) ∧ w1 = (wdX cI cJ cZ qh qn qr qs qp qi qj qw qo ) ++ (wdG cI cJ cZ qs G_s) ∧ Q r G_s
def wp_X6_forget (G_s : gGG) (Q : Int → gGG → Prop) : Prop :=
    Q G_s.1 (0, G_s.2.1, G_s.2.2)

set_option maxHeartbeats 4000000 in
set_option maxRecDepth 20000 in
theorem c_X6_forget {l : Launch} {D : va_G} {cI cJ cZ : ClassId} (qh : Nat → Nat) (qn : Nat → Nat) (qr : Nat → Nat) (qs : Nat → Nat) (qp : Nat → Nat) (qi : Nat → Nat) (qj : Nat → Nat) (qw : Nat → Nat) (qo : Nat → Nat) (G_s : gGG) (Q : Int → gGG → Prop) (h : wp_X6_forget G_s Q) : KM l D (kT cI cJ cZ) 0 0 yX6_forget wsX6_forget rm_X6_forget [.ref (qh 0)] ((wdX cI cJ cZ qh qn qr qs qp qi qj qw qo ) ++ (wdG cI cJ cZ qs G_s)) (rp_X6_forget cI cJ cZ qh qn qr qs qp qi qj qw qo Q) := by
  refine KM_intro (lv := [(0, .ref (qh 0))]) false rfl (by decide) (Nat.le_of_ble_eq_true rfl) rfl (fun h => absurd h (by decide)) (fun v ws hq => by obtain ⟨r, G_s, rfl, rfl, _⟩ := hq; exact Or.inr (Or.inl ⟨rfl, _, rfl⟩)) (fun A K C => ?_)
  refine k_aload_n C dX6_forget_0 0 rfl rfl 1 rfl ?_
  refine k_get C dX6_forget_1 0 rfl (ci := 6) rfl hin_X6_forget_6 2 (by decide) (List.mem_of_getElem? (i := 1) rfl) rfl 4 rfl ?_
  refine k_getN C dX6_forget_4 1 rfl (ci := 4) rfl hin_X6_forget_4 0 (by decide) (List.mem_of_getElem? (i := 13) rfl) rfl 7 rfl ?_
  refine k_istore_n C dX6_forget_7 rfl (by decide) [(1, .int (iI G_s.1)), (0, .ref (qh 0))] rfl 8 rfl ?_
  refine k_aload_n C dX6_forget_8 1 rfl rfl 9 rfl ?_
  refine k_get C dX6_forget_9 0 rfl (ci := 6) rfl hin_X6_forget_6 2 (by decide) (List.mem_of_getElem? (i := 1) rfl) rfl 12 rfl ?_
  refine k_iconst C dX6_forget_12 13 rfl ?_
  refine k_putN C dX6_forget_13 1 rfl (ci := 4) rfl hin_X6_forget_4 tyX4_ok nmX4 0 (by decide) (List.mem_of_getElem? (i := 13) rfl) rfl rfl rfl (Nat.le_of_ble_eq_true rfl) ((wdX cI cJ cZ qh qn qr qs qp qi qj qw qo ) ++ (wdG cI cJ cZ qs (0, G_s.2.1, G_s.2.2))) rfl 16 rfl ?_
  refine k_iload_n C dX6_forget_16 0 rfl rfl 17 rfl ?_
  exact k_iret C dX6_forget_17 ⟨G_s.1, (0, G_s.2.1, G_s.2.2), rfl, rfl, h⟩

/-! X6_grow -/
abbrev rm_X6_grow (d : Nat) : Room := { frames := 4 + d, cells := 0, slots := 0, locals := 132 + 27 * d }
theorem sg_X6_grow : yX6_grow.cls ≠ "java/lang/invoke/MethodHandle" ∧ yX6_grow.cls ≠ "java/lang/invoke/VarHandle" ∧ (parseMethodDescriptor yX6_grow.desc).map (fun d => d.parameters.length) = some 5 := by decide +kernel
theorem hin_X6_grow_5 : ∀ w ∈ wsX50, w ∈ wsX6_grow := fun _ h => List.mem_cons_of_mem _ (List.mem_append_left _ (List.mem_append_left _ (List.mem_append_right _ h)))
def rp_X6_grow (cI cJ cZ : ClassId) (qa0 : Nat → Nat) (qa1 : Nat → Nat) (qa2 : Nat → Nat) (S_a0 : gWS) (G_a1 : gGG) (Q : gWT → gWU → gRR → Prop) : Option Value → va_W → Prop := fun v w1 => ∃ (T_a0 : gWT) (U_a0 : gWU) (R_a2 : gRR), v = none ∧ w1 = (wdW cI cJ cZ qa0 S_a0 T_a0 U_a0) ++ (wdG cI cJ cZ qa1 G_a1) ++ (wdR cI cJ cZ qa2 R_a2) ∧ Q T_a0 U_a0 R_a2
def wp_X6_grow_70 (REC : gWS → gWT → gWU → gGG → gRR → Int → Int → (gWT → gWU → gRR → Prop) → Prop) (S_a0 : gWS) (G_a1 : gGG) (K_116 : Int → Int → Int → Int → gWT → gWU → gRR → Prop)  (Q : gWT → gWU → gRR → Prop) : Nat → Int → Int → Int → Int → Int → gWT → gWU → gRR → Prop
  | 0, _, _, _, _, _, _, _, _ => False
  | n70 + 1, x3, x4, x5, x6, x7, T_a0, U_a0, R_a2 =>
    rI x7 ∧ rI x5 ∧ ((x5 ≤ x7 → K_116 x3 x4 x5 x6 T_a0 U_a0 R_a2) ∧ (¬ (x5 ≤ x7) → wp_X5_put S_a0 T_a0 U_a0 x6 x7 (fun (r82 : Int) (T_a0_82 : gWT) (U_a0_82 : gWU) => rI r82 ∧ ((¬ r82 = 0 → wp_X6_grow_70 REC S_a0 G_a1 K_116 Q n70 x3 x4 x5 x6 (x7 + 1) T_a0_82 U_a0_82 R_a2) ∧ (¬ (¬ r82 = 0) → REC S_a0 T_a0_82 U_a0_82 G_a1 R_a2 (x3 - 1) (ior x4 (ishl 1 x6)) (fun (T_a0_101 : gWT) (U_a0_101 : gWU) (R_a2_101 : gRR) => wp_X5_lift S_a0 T_a0_101 x6 (fun (T_a0_107 : gWT) => wp_X6_grow_70 REC S_a0 G_a1 K_116 Q n70 x3 x4 x5 x6 (x7 + 1) T_a0_107 U_a0_101 R_a2_101)))))))
def wp_X6_grow_51 (REC : gWS → gWT → gWU → gGG → gRR → Int → Int → (gWT → gWU → gRR → Prop) → Prop) (S_a0 : gWS) (G_a1 : gGG) (K_122 : gWT → gWU → gRR → Prop)  (Q : gWT → gWU → gRR → Prop) : Nat → Int → Int → Int → Int → gWT → gWU → gRR → Prop
  | 0, _, _, _, _, _, _, _ => False
  | n51 + 1, x3, x4, x5, x6, T_a0, U_a0, R_a2 =>
    rI x6 ∧ ((10 ≤ x6 → K_122 T_a0 U_a0 R_a2) ∧ (¬ (10 ≤ x6) → wp_X5_isFree S_a0 T_a0 x6 (fun (r61 : Int) => ((r61 = 0 → wp_X6_grow_51 REC S_a0 G_a1 K_122 Q n51 x3 x4 x5 (x6 + 1) T_a0 U_a0 R_a2) ∧ (¬ (r61 = 0) → ∃ m70, wp_X6_grow_70 REC S_a0 G_a1 (fun (x3 : Int) (x4 : Int) (x5 : Int) (x6 : Int) (T_a0 : gWT) (U_a0 : gWU) (R_a2 : gRR) => wp_X6_grow_51 REC S_a0 G_a1 K_122 Q n51 x3 x4 x5 (x6 + 1) T_a0 U_a0 R_a2) Q m70 x3 x4 x5 x6 0 T_a0 U_a0 R_a2)))))
def wpb_X6_grow (REC : gWS → gWT → gWU → gGG → gRR → Int → Int → (gWT → gWU → gRR → Prop) → Prop) (S_a0 : gWS) (T_a0 : gWT) (U_a0 : gWU) (G_a1 : gGG) (R_a2 : gRR) (x3 : Int) (x4 : Int) (Q : gWT → gWU → gRR → Prop) : Prop :=
    rI x3 ∧ ((x3 < 0 → Q T_a0 U_a0 R_a2) ∧ (¬ (x3 < 0) → ((x3 ≤ 2 → ((¬ x3 = 0 → ∃ m51, wp_X6_grow_51 REC S_a0 G_a1 (fun (T_a0 : gWT) (U_a0 : gWU) (R_a2 : gRR) => Q T_a0 U_a0 R_a2) Q m51 x3 x4 S_a0.1 0 T_a0 U_a0 R_a2) ∧ (¬ (¬ x3 = 0) → wp_X4_areSo G_a1 T_a0 (fun (r28 : Int) => ((r28 = 0 → Q T_a0 U_a0 R_a2) ∧ (¬ (r28 = 0) → wp_X3_add R_a2 T_a0 x4 (fun (R_a2_38 : gRR) => Q T_a0 U_a0 R_a2_38))))))) ∧ (¬ (x3 ≤ 2) → Q T_a0 U_a0 R_a2))))
def wp_X6_grow : Nat → (gWS → gWT → gWU → gGG → gRR → Int → Int → (gWT → gWU → gRR → Prop) → Prop)
  | 0 => fun _ _ _ _ _ _ _ _ => False
  | d + 1 => wpb_X6_grow (wp_X6_grow d)
set_option maxHeartbeats 4000000 in
set_option maxRecDepth 20000 in
theorem w_X6_grow_70 {l : Launch} {D : va_G} {cI cJ cZ : ClassId} {A : Nat → Prop} {K : KT} {d : Nat} {REC : gWS → gWT → gWU → gGG → gRR → Int → Int → (gWT → gWU → gRR → Prop) → Prop} {qa0 : Nat → Nat} {qa1 : Nat → Nat} {qa2 : Nat → Nat} {S_a0 : gWS} {G_a1 : gGG} {Q : gWT → gWU → gRR → Prop} {K_116 : Int → Int → Int → Int → gWT → gWU → gRR → Prop} (C : KC cX6_grow yX6_grow.cls wsX6_grow (rm_X6_grow (d + 1)) 8 D (kT cI cJ cZ) A l false (rp_X6_grow cI cJ cZ qa0 qa1 qa2 S_a0 G_a1 Q) 0 0 K) (hREC : ∀ (S_a0 : gWS) (T_a0 : gWT) (U_a0 : gWU) (G_a1 : gGG) (R_a2 : gRR) (x3 : Int) (x4 : Int) (Q : gWT → gWU → gRR → Prop), REC S_a0 T_a0 U_a0 G_a1 R_a2 x3 x4 Q → KM l D (kT cI cJ cZ) 0 0 yX6_grow wsX6_grow (rm_X6_grow d) [.ref (qa0 0), .ref (qa1 0), .ref (qa2 0), .int (iI x3), .int (iI x4)] ((wdW cI cJ cZ qa0 S_a0 T_a0 U_a0) ++ (wdG cI cJ cZ qa1 G_a1) ++ (wdR cI cJ cZ qa2 R_a2)) (rp_X6_grow cI cJ cZ qa0 qa1 qa2 S_a0 G_a1 Q)) : ∀ (n : Nat) (x3 : Int) (x4 : Int) (x5 : Int) (x6 : Int) (x7 : Int) (T_a0 : gWT) (U_a0 : gWU) (R_a2 : gRR), wp_X6_grow_70 REC S_a0 G_a1 K_116 Q n x3 x4 x5 x6 x7 T_a0 U_a0 R_a2 → (∀ (x3 : Int) (x4 : Int) (x5 : Int) (x6 : Int) (T_a0 : gWT) (U_a0 : gWU) (R_a2 : gRR), K_116 x3 x4 x5 x6 T_a0 U_a0 R_a2 → K 0 0 116 [(0, .ref (qa0 0)), (1, .ref (qa1 0)), (2, .ref (qa2 0)), (3, .int (iI x3)), (4, .int (iI x4)), (5, .int (iI x5)), (6, .int (iI x6))] [] ((wdW cI cJ cZ qa0 S_a0 T_a0 U_a0) ++ (wdG cI cJ cZ qa1 G_a1) ++ (wdR cI cJ cZ qa2 R_a2))) → K 0 0 70 [(0, .ref (qa0 0)), (1, .ref (qa1 0)), (2, .ref (qa2 0)), (3, .int (iI x3)), (4, .int (iI x4)), (5, .int (iI x5)), (6, .int (iI x6)), (7, .int (iI x7))] [] ((wdW cI cJ cZ qa0 S_a0 T_a0 U_a0) ++ (wdG cI cJ cZ qa1 G_a1) ++ (wdR cI cJ cZ qa2 R_a2)) := by
  intro n
  induction n with
  | zero => intro x3 x4 x5 x6 x7 T_a0 U_a0 R_a2 h; exact h.elim
  | succ n ih =>
    intro x3 x4 x5 x6 x7 T_a0 U_a0 R_a2 h hK_116
    refine k_iload C dX6_grow_70 7 rfl 72 rfl ?_
    refine k_iload C dX6_grow_72 5 rfl 74 rfl ?_
    obtain ⟨hr74a, hr74b, h⟩ := h
    obtain ⟨ht, hf⟩ := h
    refine k_icmp_ge C dX6_grow_74 ⟨hr74a, hr74b⟩ 116 77 (by decide) rfl (fun hc74 => ?_) (fun hc74 => ?_)
    · have h := ht hc74; clear ht hf
      refine k_lv C [0, 1, 2, 3, 4, 5, 6] [(0, .ref (qa0 0)), (1, .ref (qa1 0)), (2, .ref (qa2 0)), (3, .int (iI x3)), (4, .int (iI x4)), (5, .int (iI x5)), (6, .int (iI x6))] rfl ?_
      exact hK_116 x3 x4 x5 x6 T_a0 U_a0 R_a2 h
    · have h := hf hc74; clear ht hf
      refine k_aload_n C dX6_grow_77 0 rfl rfl 78 rfl ?_
      refine k_iload C dX6_grow_78 6 rfl 80 rfl ?_
      refine k_iload C dX6_grow_80 7 rfl 82 rfl ?_
      have hM := c_X5_put (l := l) (D := D) (cI := cI) (cJ := cJ) (cZ := cZ) qa0 S_a0 T_a0 U_a0 x6 x7 _ h
      refine k_callV C dX6_grow_82 hM gX6_grow_X5_put rfl sg_X5_put 5 rfl rfl rfl (Nat.le_of_ble_eq_true rfl) ⟨⟨rfl, rfl⟩, by simp only [rm_X6_grow, rm_X5_put]; omega, by simp only [rm_X6_grow, rm_X5_put]; omega⟩ ⟨Nat.le_refl 0, Nat.le_refl 0⟩ [0, 1, 2, 3, 4, 5, 6, 7, 8] [9, 10, 11, 12, 13] rfl rfl rfl rfl (by decide) 0 0 ⟨rfl, rfl⟩ 85 rfl (fun v w1 hq82 => ?_)
      obtain ⟨r82, T_a0_82, U_a0_82, rfl, rfl, h⟩ := hq82
      refine k_perm C [5, 6, 7, 8, 9, 10, 11, 12, 13, 0, 1, 2, 3, 4] [.int (iI r82)] ((wdW cI cJ cZ qa0 S_a0 T_a0_82 U_a0_82) ++ (wdG cI cJ cZ qa1 G_a1) ++ (wdR cI cJ cZ qa2 R_a2)) rfl rfl rfl ?_
      obtain ⟨hr85a, h⟩ := h
      obtain ⟨ht, hf⟩ := h
      refine k_if_ne C dX6_grow_85 hr85a 110 88 (by decide) rfl (fun hc85 => ?_) (fun hc85 => ?_)
      · have h := ht hc85; clear ht hf
        refine k_iinc (j := 7) C dX6_grow_110 rfl (by decide) [(7, .int (iI (x7 + 1))), (0, .ref (qa0 0)), (1, .ref (qa1 0)), (2, .ref (qa2 0)), (3, .int (iI x3)), (4, .int (iI x4)), (5, .int (iI x5)), (6, .int (iI x6))] rfl 113 rfl ?_
        refine k_goto C dX6_grow_113 70 (by decide) ?_
        refine k_lv C [1, 2, 3, 4, 5, 6, 7, 0] [(0, .ref (qa0 0)), (1, .ref (qa1 0)), (2, .ref (qa2 0)), (3, .int (iI x3)), (4, .int (iI x4)), (5, .int (iI x5)), (6, .int (iI x6)), (7, .int (iI (x7 + 1)))] rfl ?_
        exact ih x3 x4 x5 x6 (x7 + 1) T_a0_82 U_a0_82 R_a2 h hK_116
      · have h := hf hc85; clear ht hf
        refine k_aload_n C dX6_grow_88 0 rfl rfl 89 rfl ?_
        refine k_aload_n C dX6_grow_89 1 rfl rfl 90 rfl ?_
        refine k_aload_n C dX6_grow_90 2 rfl rfl 91 rfl ?_
        refine k_iload_n C dX6_grow_91 3 rfl rfl 92 rfl ?_
        refine k_iconst C dX6_grow_92 93 rfl ?_
        refine k_isub C dX6_grow_93 94 rfl ?_
        refine k_iload C dX6_grow_94 4 rfl 96 rfl ?_
        refine k_iconst C dX6_grow_96 97 rfl ?_
        refine k_iload C dX6_grow_97 6 rfl 99 rfl ?_
        refine k_ishl C dX6_grow_99 100 rfl ?_
        refine k_ior C dX6_grow_100 101 rfl ?_
        have hM := hREC S_a0 T_a0_82 U_a0_82 G_a1 R_a2 (x3 - 1) (ior x4 (ishl 1 x6)) _ h
        refine k_callS C dX6_grow_101 hM gX6_grow_X6_grow rfl sg_X6_grow rfl (Nat.le_of_ble_eq_true rfl) ⟨⟨rfl, rfl⟩, by simp only [rm_X6_grow, rm_X6_grow]; omega, by simp only [rm_X6_grow, rm_X6_grow]; omega⟩ ⟨Nat.le_refl 0, Nat.le_refl 0⟩ [0, 1, 2, 3, 4, 5, 6, 7, 8, 9, 10, 11, 12, 13] [] rfl rfl rfl rfl (by decide) 0 0 ⟨rfl, rfl⟩ 104 rfl (fun v w1 hq101 => ?_)
        obtain ⟨T_a0_101, U_a0_101, R_a2_101, rfl, rfl, h⟩ := hq101
        refine k_perm C [0, 1, 2, 3, 4, 5, 6, 7, 8, 9, 10, 11, 12, 13] [] ((wdW cI cJ cZ qa0 S_a0 T_a0_101 U_a0_101) ++ (wdG cI cJ cZ qa1 G_a1) ++ (wdR cI cJ cZ qa2 R_a2_101)) rfl rfl rfl ?_
        refine k_aload_n C dX6_grow_104 0 rfl rfl 105 rfl ?_
        refine k_iload C dX6_grow_105 6 rfl 107 rfl ?_
        have hM := c_X5_lift (l := l) (D := D) (cI := cI) (cJ := cJ) (cZ := cZ) qa0 S_a0 T_a0_101 U_a0_101 x6 _ h
        refine k_callV C dX6_grow_107 hM gX6_grow_X5_lift rfl sg_X5_lift 5 rfl rfl rfl (Nat.le_of_ble_eq_true rfl) ⟨⟨rfl, rfl⟩, by simp only [rm_X6_grow, rm_X5_lift]; omega, by simp only [rm_X6_grow, rm_X5_lift]; omega⟩ ⟨Nat.le_refl 0, Nat.le_refl 0⟩ [0, 1, 2, 3, 4, 5, 6, 7, 8] [9, 10, 11, 12, 13] rfl rfl rfl rfl (by decide) 0 0 ⟨rfl, rfl⟩ 110 rfl (fun v w1 hq107 => ?_)
        obtain ⟨T_a0_107, rfl, rfl, h⟩ := hq107
        refine k_perm C [5, 6, 7, 8, 9, 10, 11, 12, 13, 0, 1, 2, 3, 4] [] ((wdW cI cJ cZ qa0 S_a0 T_a0_107 U_a0_101) ++ (wdG cI cJ cZ qa1 G_a1) ++ (wdR cI cJ cZ qa2 R_a2_101)) rfl rfl rfl ?_
        refine k_iinc (j := 7) C dX6_grow_110 rfl (by decide) [(7, .int (iI (x7 + 1))), (0, .ref (qa0 0)), (1, .ref (qa1 0)), (2, .ref (qa2 0)), (3, .int (iI x3)), (4, .int (iI x4)), (5, .int (iI x5)), (6, .int (iI x6))] rfl 113 rfl ?_
        refine k_goto C dX6_grow_113 70 (by decide) ?_
        refine k_lv C [1, 2, 3, 4, 5, 6, 7, 0] [(0, .ref (qa0 0)), (1, .ref (qa1 0)), (2, .ref (qa2 0)), (3, .int (iI x3)), (4, .int (iI x4)), (5, .int (iI x5)), (6, .int (iI x6)), (7, .int (iI (x7 + 1)))] rfl ?_
        exact ih x3 x4 x5 x6 (x7 + 1) T_a0_107 U_a0_101 R_a2_101 h hK_116
set_option maxHeartbeats 4000000 in
set_option maxRecDepth 20000 in
theorem w_X6_grow_51 {l : Launch} {D : va_G} {cI cJ cZ : ClassId} {A : Nat → Prop} {K : KT} {d : Nat} {REC : gWS → gWT → gWU → gGG → gRR → Int → Int → (gWT → gWU → gRR → Prop) → Prop} {qa0 : Nat → Nat} {qa1 : Nat → Nat} {qa2 : Nat → Nat} {S_a0 : gWS} {G_a1 : gGG} {Q : gWT → gWU → gRR → Prop} {K_122 : gWT → gWU → gRR → Prop} (C : KC cX6_grow yX6_grow.cls wsX6_grow (rm_X6_grow (d + 1)) 8 D (kT cI cJ cZ) A l false (rp_X6_grow cI cJ cZ qa0 qa1 qa2 S_a0 G_a1 Q) 0 0 K) (hREC : ∀ (S_a0 : gWS) (T_a0 : gWT) (U_a0 : gWU) (G_a1 : gGG) (R_a2 : gRR) (x3 : Int) (x4 : Int) (Q : gWT → gWU → gRR → Prop), REC S_a0 T_a0 U_a0 G_a1 R_a2 x3 x4 Q → KM l D (kT cI cJ cZ) 0 0 yX6_grow wsX6_grow (rm_X6_grow d) [.ref (qa0 0), .ref (qa1 0), .ref (qa2 0), .int (iI x3), .int (iI x4)] ((wdW cI cJ cZ qa0 S_a0 T_a0 U_a0) ++ (wdG cI cJ cZ qa1 G_a1) ++ (wdR cI cJ cZ qa2 R_a2)) (rp_X6_grow cI cJ cZ qa0 qa1 qa2 S_a0 G_a1 Q)) : ∀ (n : Nat) (x3 : Int) (x4 : Int) (x5 : Int) (x6 : Int) (T_a0 : gWT) (U_a0 : gWU) (R_a2 : gRR), wp_X6_grow_51 REC S_a0 G_a1 K_122 Q n x3 x4 x5 x6 T_a0 U_a0 R_a2 → (∀ (T_a0 : gWT) (U_a0 : gWU) (R_a2 : gRR), K_122 T_a0 U_a0 R_a2 → K 0 0 122 [] [] ((wdW cI cJ cZ qa0 S_a0 T_a0 U_a0) ++ (wdG cI cJ cZ qa1 G_a1) ++ (wdR cI cJ cZ qa2 R_a2))) → K 0 0 51 [(0, .ref (qa0 0)), (1, .ref (qa1 0)), (2, .ref (qa2 0)), (3, .int (iI x3)), (4, .int (iI x4)), (5, .int (iI x5)), (6, .int (iI x6))] [] ((wdW cI cJ cZ qa0 S_a0 T_a0 U_a0) ++ (wdG cI cJ cZ qa1 G_a1) ++ (wdR cI cJ cZ qa2 R_a2)) := by
  intro n
  induction n with
  | zero => intro x3 x4 x5 x6 T_a0 U_a0 R_a2 h; exact h.elim
  | succ n ih =>
    intro x3 x4 x5 x6 T_a0 U_a0 R_a2 h hK_122
    refine k_iload C dX6_grow_51 6 rfl 53 rfl ?_
    refine k_bipush C dX6_grow_53 (by decide) 55 rfl ?_
    obtain ⟨hr55a, h⟩ := h
    obtain ⟨ht, hf⟩ := h
    refine k_icmp_ge C dX6_grow_55 ⟨hr55a, (by decide)⟩ 122 58 (by decide) rfl (fun hc55 => ?_) (fun hc55 => ?_)
    · have h := ht hc55; clear ht hf
      refine k_lv C [] [] rfl ?_
      exact hK_122 T_a0 U_a0 R_a2 h
    · have h := hf hc55; clear ht hf
      refine k_aload_n C dX6_grow_58 0 rfl rfl 59 rfl ?_
      refine k_iload C dX6_grow_59 6 rfl 61 rfl ?_
      have hM := c_X5_isFree (l := l) (D := D) (cI := cI) (cJ := cJ) (cZ := cZ) qa0 S_a0 T_a0 U_a0 x6 _ h
      refine k_callV C dX6_grow_61 hM gX6_grow_X5_isFree rfl sg_X5_isFree 5 rfl rfl rfl (Nat.le_of_ble_eq_true rfl) ⟨⟨rfl, rfl⟩, by simp only [rm_X6_grow, rm_X5_isFree]; omega, by simp only [rm_X6_grow, rm_X5_isFree]; omega⟩ ⟨Nat.le_refl 0, Nat.le_refl 0⟩ [0, 1, 2, 3, 4, 5, 6, 7, 8] [9, 10, 11, 12, 13] rfl rfl rfl rfl (by decide) 0 0 ⟨rfl, rfl⟩ 64 rfl (fun v w1 hq61 => ?_)
      obtain ⟨r61, rfl, rfl, hb61, h⟩ := hq61
      refine k_perm C [5, 6, 7, 8, 9, 10, 11, 12, 13, 0, 1, 2, 3, 4] [.int (iI r61)] ((wdW cI cJ cZ qa0 S_a0 T_a0 U_a0) ++ (wdG cI cJ cZ qa1 G_a1) ++ (wdR cI cJ cZ qa2 R_a2)) rfl rfl rfl ?_
      obtain ⟨ht, hf⟩ := h
      refine k_if_eq C dX6_grow_64 (by rcases hb61 with rfl | rfl <;> decide) 116 67 (by decide) rfl (fun hc64 => ?_) (fun hc64 => ?_)
      · have h := ht hc64; clear ht hf
        refine k_iinc (j := 6) C dX6_grow_116 rfl (by decide) [(6, .int (iI (x6 + 1))), (0, .ref (qa0 0)), (1, .ref (qa1 0)), (2, .ref (qa2 0)), (3, .int (iI x3)), (4, .int (iI x4)), (5, .int (iI x5))] rfl 119 rfl ?_
        refine k_goto C dX6_grow_119 51 (by decide) ?_
        refine k_lv C [1, 2, 3, 4, 5, 6, 0] [(0, .ref (qa0 0)), (1, .ref (qa1 0)), (2, .ref (qa2 0)), (3, .int (iI x3)), (4, .int (iI x4)), (5, .int (iI x5)), (6, .int (iI (x6 + 1)))] rfl ?_
        exact ih x3 x4 x5 (x6 + 1) T_a0 U_a0 R_a2 h hK_122
      · have h := hf hc64; clear ht hf
        refine k_iconst C dX6_grow_67 68 rfl ?_
        refine k_istore C dX6_grow_68 (by decide) [(7, .int (iI 0)), (0, .ref (qa0 0)), (1, .ref (qa1 0)), (2, .ref (qa2 0)), (3, .int (iI x3)), (4, .int (iI x4)), (5, .int (iI x5)), (6, .int (iI x6))] rfl 70 rfl ?_
        refine k_lv C [1, 2, 3, 4, 5, 6, 7, 0] [(0, .ref (qa0 0)), (1, .ref (qa1 0)), (2, .ref (qa2 0)), (3, .int (iI x3)), (4, .int (iI x4)), (5, .int (iI x5)), (6, .int (iI x6)), (7, .int (iI 0))] rfl ?_
        obtain ⟨m70, h⟩ := h
        refine w_X6_grow_70 C hREC m70 x3 x4 x5 x6 0 T_a0 U_a0 R_a2 h (fun x3 x4 x5 x6 T_a0 U_a0 R_a2 h => ?_)
        · refine k_iinc (j := 6) C dX6_grow_116 rfl (by decide) [(6, .int (iI (x6 + 1))), (0, .ref (qa0 0)), (1, .ref (qa1 0)), (2, .ref (qa2 0)), (3, .int (iI x3)), (4, .int (iI x4)), (5, .int (iI x5))] rfl 119 rfl ?_
          refine k_goto C dX6_grow_119 51 (by decide) ?_
          refine k_lv C [1, 2, 3, 4, 5, 6, 0] [(0, .ref (qa0 0)), (1, .ref (qa1 0)), (2, .ref (qa2 0)), (3, .int (iI x3)), (4, .int (iI x4)), (5, .int (iI x5)), (6, .int (iI (x6 + 1)))] rfl ?_
          exact ih x3 x4 x5 (x6 + 1) T_a0 U_a0 R_a2 h hK_122
set_option maxHeartbeats 4000000 in
set_option maxRecDepth 20000 in
theorem c_X6_grow {l : Launch} {D : va_G} {cI cJ cZ : ClassId} (d : Nat) (qa0 : Nat → Nat) (qa1 : Nat → Nat) (qa2 : Nat → Nat) (S_a0 : gWS) (T_a0 : gWT) (U_a0 : gWU) (G_a1 : gGG) (R_a2 : gRR) (x3 : Int) (x4 : Int) (Q : gWT → gWU → gRR → Prop) (h : wp_X6_grow d S_a0 T_a0 U_a0 G_a1 R_a2 x3 x4 Q) : KM l D (kT cI cJ cZ) 0 0 yX6_grow wsX6_grow (rm_X6_grow d) [.ref (qa0 0), .ref (qa1 0), .ref (qa2 0), .int (iI x3), .int (iI x4)] ((wdW cI cJ cZ qa0 S_a0 T_a0 U_a0) ++ (wdG cI cJ cZ qa1 G_a1) ++ (wdR cI cJ cZ qa2 R_a2)) (rp_X6_grow cI cJ cZ qa0 qa1 qa2 S_a0 G_a1 Q) := by
  induction d generalizing S_a0 T_a0 U_a0 G_a1 R_a2 x3 x4 Q with
  | zero => exact h.elim
  | succ d ihd =>
  have hREC := ihd
  have h : wpb_X6_grow (wp_X6_grow d) S_a0 T_a0 U_a0 G_a1 R_a2 x3 x4 Q := h
  refine KM_intro (lv := [(0, .ref (qa0 0)), (1, .ref (qa1 0)), (2, .ref (qa2 0)), (3, .int (iI x3)), (4, .int (iI x4))]) false rfl (by decide) (Nat.le_of_ble_eq_true rfl) rfl (fun h => absurd h (by decide)) (fun v ws hq => by obtain ⟨T_a0, U_a0, R_a2, rfl, rfl, _⟩ := hq; exact Or.inl ⟨rfl, rfl⟩) (fun A K C => ?_)
  refine k_aload_n C dX6_grow_0 0 rfl rfl 1 rfl ?_
  refine k_ifnull C dX6_grow_1 4 rfl ?_
  refine k_aload_n C dX6_grow_4 1 rfl rfl 5 rfl ?_
  refine k_ifnull C dX6_grow_5 8 rfl ?_
  refine k_aload_n C dX6_grow_8 2 rfl rfl 9 rfl ?_
  refine k_ifnull C dX6_grow_9 12 rfl ?_
  refine k_iload_n C dX6_grow_12 3 rfl rfl 13 rfl ?_
  obtain ⟨hr13a, h⟩ := h
  obtain ⟨ht, hf⟩ := h
  refine k_if_lt C dX6_grow_13 hr13a 21 16 (by decide) rfl (fun hc13 => ?_) (fun hc13 => ?_)
  · have h := ht hc13; clear ht hf
    exact k_vret C dX6_grow_21 ⟨T_a0, U_a0, R_a2, rfl, rfl, h⟩
  · have h := hf hc13; clear ht hf
    refine k_iload_n C dX6_grow_16 3 rfl rfl 17 rfl ?_
    refine k_iconst C dX6_grow_17 18 rfl ?_
    obtain ⟨ht, hf⟩ := h
    refine k_icmp_le C dX6_grow_18 ⟨hr13a, (by decide)⟩ 22 21 (by decide) rfl (fun hc18 => ?_) (fun hc18 => ?_)
    · have h := ht hc18; clear ht hf
      refine k_iload_n C dX6_grow_22 3 rfl rfl 23 rfl ?_
      obtain ⟨ht, hf⟩ := h
      refine k_if_ne C dX6_grow_23 hr13a 42 26 (by decide) rfl (fun hc23 => ?_) (fun hc23 => ?_)
      · have h := ht hc23; clear ht hf
        refine k_aload_n C dX6_grow_42 0 rfl rfl 43 rfl ?_
        refine k_getN C dX6_grow_43 0 rfl (ci := 5) rfl hin_X6_grow_5 0 (by decide) (List.mem_of_getElem? (i := 1) rfl) rfl 46 rfl ?_
        refine k_istore C dX6_grow_46 (by decide) [(5, .int (iI S_a0.1)), (0, .ref (qa0 0)), (1, .ref (qa1 0)), (2, .ref (qa2 0)), (3, .int (iI x3)), (4, .int (iI x4))] rfl 48 rfl ?_
        refine k_iconst C dX6_grow_48 49 rfl ?_
        refine k_istore C dX6_grow_49 (by decide) [(6, .int (iI 0)), (5, .int (iI S_a0.1)), (0, .ref (qa0 0)), (1, .ref (qa1 0)), (2, .ref (qa2 0)), (3, .int (iI x3)), (4, .int (iI x4))] rfl 51 rfl ?_
        refine k_lv C [2, 3, 4, 5, 6, 1, 0] [(0, .ref (qa0 0)), (1, .ref (qa1 0)), (2, .ref (qa2 0)), (3, .int (iI x3)), (4, .int (iI x4)), (5, .int (iI S_a0.1)), (6, .int (iI 0))] rfl ?_
        obtain ⟨m51, h⟩ := h
        refine w_X6_grow_51 C hREC m51 x3 x4 S_a0.1 0 T_a0 U_a0 R_a2 h (fun T_a0 U_a0 R_a2 h => ?_)
        · exact k_vret C dX6_grow_122 ⟨T_a0, U_a0, R_a2, rfl, rfl, h⟩
      · have h := hf hc23; clear ht hf
        refine k_aload_n C dX6_grow_26 1 rfl rfl 27 rfl ?_
        refine k_aload_n C dX6_grow_27 0 rfl rfl 28 rfl ?_
        have hM := c_X4_areSo (l := l) (D := D) (cI := cI) (cJ := cJ) (cZ := cZ) qa1 qa0 G_a1 S_a0 T_a0 U_a0 _ h
        refine k_callV C dX6_grow_28 hM gX6_grow_X4_areSo rfl sg_X4_areSo 4 rfl rfl rfl (Nat.le_of_ble_eq_true rfl) ⟨⟨rfl, rfl⟩, by simp only [rm_X6_grow, rm_X4_areSo]; omega, by simp only [rm_X6_grow, rm_X4_areSo]; omega⟩ ⟨Nat.le_refl 0, Nat.le_refl 0⟩ [9, 10, 11, 0, 1, 2, 3, 4, 5, 6, 7, 8] [12, 13] rfl rfl rfl rfl (by decide) 0 0 ⟨rfl, rfl⟩ 31 rfl (fun v w1 hq28 => ?_)
        obtain ⟨r28, rfl, rfl, hb28, h⟩ := hq28
        refine k_perm C [5, 6, 7, 8, 9, 10, 11, 12, 13, 2, 3, 4, 0, 1] [.int (iI r28)] ((wdW cI cJ cZ qa0 S_a0 T_a0 U_a0) ++ (wdG cI cJ cZ qa1 G_a1) ++ (wdR cI cJ cZ qa2 R_a2)) rfl rfl rfl ?_
        obtain ⟨ht, hf⟩ := h
        refine k_if_eq C dX6_grow_31 (by rcases hb28 with rfl | rfl <;> decide) 41 34 (by decide) rfl (fun hc31 => ?_) (fun hc31 => ?_)
        · have h := ht hc31; clear ht hf
          exact k_vret C dX6_grow_41 ⟨T_a0, U_a0, R_a2, rfl, rfl, h⟩
        · have h := hf hc31; clear ht hf
          refine k_aload_n C dX6_grow_34 2 rfl rfl 35 rfl ?_
          refine k_aload_n C dX6_grow_35 0 rfl rfl 36 rfl ?_
          refine k_iload C dX6_grow_36 4 rfl 38 rfl ?_
          have hM := c_X3_add (l := l) (D := D) (cI := cI) (cJ := cJ) (cZ := cZ) qa2 qa0 R_a2 S_a0 T_a0 U_a0 x4 _ h
          refine k_callV C dX6_grow_38 hM gX6_grow_X3_add rfl sg_X3_add 3 rfl rfl rfl (Nat.le_of_ble_eq_true rfl) ⟨⟨rfl, rfl⟩, by simp only [rm_X6_grow, rm_X3_add]; omega, by simp only [rm_X6_grow, rm_X3_add]; omega⟩ ⟨Nat.le_refl 0, Nat.le_refl 0⟩ [12, 13, 0, 1, 2, 3, 4, 5, 6, 7, 8] [9, 10, 11] rfl rfl rfl rfl (by decide) 0 0 ⟨rfl, rfl⟩ 41 rfl (fun v w1 hq38 => ?_)
          obtain ⟨R_a2_38, rfl, rfl, h⟩ := hq38
          refine k_perm C [5, 6, 7, 8, 9, 10, 11, 12, 13, 0, 1, 2, 3, 4] [] ((wdW cI cJ cZ qa0 S_a0 T_a0 U_a0) ++ (wdG cI cJ cZ qa1 G_a1) ++ (wdR cI cJ cZ qa2 R_a2_38)) rfl rfl rfl ?_
          exact k_vret C dX6_grow_41 ⟨T_a0, U_a0, R_a2_38, rfl, rfl, h⟩
    · have h := hf hc18; clear ht hf
      exact k_vret C dX6_grow_21 ⟨T_a0, U_a0, R_a2, rfl, rfl, h⟩

/-! X6_findRows -/
abbrev rm_X6_findRows : Room := { frames := 9, cells := 0, slots := 0, locals := 267 }
theorem sg_X6_findRows : yX6_findRows.cls ≠ "java/lang/invoke/MethodHandle" ∧ yX6_findRows.cls ≠ "java/lang/invoke/VarHandle" ∧ (parseMethodDescriptor yX6_findRows.desc).map (fun d => d.parameters.length) = some 1 := by decide +kernel
theorem hin_X6_findRows_6 : ∀ w ∈ wsX60, w ∈ wsX6_findRows := fun _ h => List.mem_cons_of_mem _ (List.mem_append_left _ (List.mem_append_left _ (List.mem_append_left _ (List.mem_append_right _ h))))
def rp_X6_findRows (cI cJ cZ : ClassId) (qh : Nat → Nat) (qn : Nat → Nat) (qr : Nat → Nat) (qs : Nat → Nat) (qp : Nat → Nat) (qi : Nat → Nat) (qj : Nat → Nat) (qw : Nat → Nat) (qo : Nat → Nat) (S_n : gWS) (T_n : gWT) (U_n : gWU) (G_s : gGG) (Q : gWS → gWT → gWU → gRR → Prop) : Option Value → va_W → Prop := fun v w1 => ∃ (S_r : gWS) (T_r : gWT) (U_r : gWU) (R_w : gRR), v = none ∧ w1 = (wdX cI cJ cZ qh qn qr qs qp qi qj qw qo ) ++ (wdW cI cJ cZ qn S_n T_n U_n) ++ (wdW cI cJ cZ qr S_r T_r U_r) ++ (wdG cI cJ cZ qs G_s) ++ (wdR cI cJ cZ qw R_w) ∧ Q S_r T_r U_r R_w
def wp_X6_findRows (S_n : gWS) (T_n : gWT) (S_r : gWS) (T_r : gWT) (U_r : gWU) (G_s : gGG) (R_w : gRR) (x1 : Int) (Q : gWS → gWT → gWU → gRR → Prop) : Prop :=
    wp_X5_become S_r T_r S_n T_n (fun (S_r_8 : gWS) (T_r_8 : gWT) => wp_X3_start R_w (fun (R_w_15 : gRR) => wp_X6_grow 4 S_r_8 T_r_8 U_r G_s R_w_15 x1 0 (fun (T_r_32 : gWT) (U_r_32 : gWU) (R_w_32 : gRR) => Q S_r_8 T_r_32 U_r_32 R_w_32)))

set_option maxHeartbeats 4000000 in
set_option maxRecDepth 20000 in
theorem c_X6_findRows {l : Launch} {D : va_G} {cI cJ cZ : ClassId} (qh : Nat → Nat) (qn : Nat → Nat) (qr : Nat → Nat) (qs : Nat → Nat) (qp : Nat → Nat) (qi : Nat → Nat) (qj : Nat → Nat) (qw : Nat → Nat) (qo : Nat → Nat) (S_n : gWS) (T_n : gWT) (U_n : gWU) (S_r : gWS) (T_r : gWT) (U_r : gWU) (G_s : gGG) (R_w : gRR) (x1 : Int) (Q : gWS → gWT → gWU → gRR → Prop) (h : wp_X6_findRows S_n T_n S_r T_r U_r G_s R_w x1 Q) : KM l D (kT cI cJ cZ) 0 0 yX6_findRows wsX6_findRows rm_X6_findRows [.ref (qh 0), .int (iI x1)] ((wdX cI cJ cZ qh qn qr qs qp qi qj qw qo ) ++ (wdW cI cJ cZ qn S_n T_n U_n) ++ (wdW cI cJ cZ qr S_r T_r U_r) ++ (wdG cI cJ cZ qs G_s) ++ (wdR cI cJ cZ qw R_w)) (rp_X6_findRows cI cJ cZ qh qn qr qs qp qi qj qw qo S_n T_n U_n G_s Q) := by
  refine KM_intro (lv := [(0, .ref (qh 0)), (1, .int (iI x1))]) false rfl (by decide) (Nat.le_of_ble_eq_true rfl) rfl (fun h => absurd h (by decide)) (fun v ws hq => by obtain ⟨S_r, T_r, U_r, R_w, rfl, rfl, _⟩ := hq; exact Or.inl ⟨rfl, rfl⟩) (fun A K C => ?_)
  refine k_aload_n C dX6_findRows_0 0 rfl rfl 1 rfl ?_
  refine k_get C dX6_findRows_1 0 rfl (ci := 6) rfl hin_X6_findRows_6 1 (by decide) (List.mem_of_getElem? (i := 1) rfl) rfl 4 rfl ?_
  refine k_aload_n C dX6_findRows_4 0 rfl rfl 5 rfl ?_
  refine k_get C dX6_findRows_5 0 rfl (ci := 6) rfl hin_X6_findRows_6 0 (by decide) (List.mem_of_getElem? (i := 2) rfl) rfl 8 rfl ?_
  have hM := c_X5_become (l := l) (D := D) (cI := cI) (cJ := cJ) (cZ := cZ) qr qn S_r T_r U_r S_n T_n U_n _ h
  refine k_callV C dX6_findRows_8 hM gX6_findRows_X5_become rfl sg_X5_become 5 rfl rfl rfl (Nat.le_of_ble_eq_true rfl) ⟨⟨rfl, rfl⟩, by decide, by decide⟩ ⟨Nat.le_refl 0, Nat.le_refl 0⟩ [10, 11, 12, 13, 14, 15, 16, 17, 18, 1, 2, 3, 4, 5, 6, 7, 8, 9] [0, 19, 20, 21, 22, 23] rfl rfl rfl rfl (by decide) 0 0 ⟨rfl, rfl⟩ 11 rfl (fun v w1 hq8 => ?_)
  obtain ⟨S_r_8, T_r_8, rfl, rfl, h⟩ := hq8
  refine k_perm C [0, 15, 16, 17, 18, 19, 20, 21, 22, 23, 6, 7, 8, 9, 10, 11, 12, 13, 14, 1, 2, 3, 4, 5] [] ((wdX cI cJ cZ qh qn qr qs qp qi qj qw qo ) ++ (wdW cI cJ cZ qn S_n T_n U_n) ++ (wdW cI cJ cZ qr S_r_8 T_r_8 U_r) ++ (wdG cI cJ cZ qs G_s) ++ (wdR cI cJ cZ qw R_w)) rfl rfl rfl ?_
  refine k_aload_n C dX6_findRows_11 0 rfl rfl 12 rfl ?_
  refine k_get C dX6_findRows_12 0 rfl (ci := 6) rfl hin_X6_findRows_6 6 (by decide) (List.mem_of_getElem? (i := 3) rfl) rfl 15 rfl ?_
  have hM := c_X3_start (l := l) (D := D) (cI := cI) (cJ := cJ) (cZ := cZ) qw R_w _ h
  refine k_callV C dX6_findRows_15 hM gX6_findRows_X3_start rfl sg_X3_start 3 rfl rfl rfl (Nat.le_of_ble_eq_true rfl) ⟨⟨rfl, rfl⟩, by decide, by decide⟩ ⟨Nat.le_refl 0, Nat.le_refl 0⟩ [22, 23] [0, 1, 2, 3, 4, 5, 6, 7, 8, 9, 10, 11, 12, 13, 14, 15, 16, 17, 18, 19, 20, 21] rfl rfl rfl rfl (by decide) 0 0 ⟨rfl, rfl⟩ 18 rfl (fun v w1 hq15 => ?_)
  obtain ⟨R_w_15, rfl, rfl, h⟩ := hq15
  refine k_perm C [0, 1, 2, 3, 4, 5, 6, 7, 8, 9, 10, 11, 12, 13, 14, 15, 16, 17, 18, 19, 20, 21, 22, 23] [] ((wdX cI cJ cZ qh qn qr qs qp qi qj qw qo ) ++ (wdW cI cJ cZ qn S_n T_n U_n) ++ (wdW cI cJ cZ qr S_r_8 T_r_8 U_r) ++ (wdG cI cJ cZ qs G_s) ++ (wdR cI cJ cZ qw R_w_15)) rfl rfl rfl ?_
  refine k_aload_n C dX6_findRows_18 0 rfl rfl 19 rfl ?_
  refine k_get C dX6_findRows_19 0 rfl (ci := 6) rfl hin_X6_findRows_6 1 (by decide) (List.mem_of_getElem? (i := 1) rfl) rfl 22 rfl ?_
  refine k_aload_n C dX6_findRows_22 0 rfl rfl 23 rfl ?_
  refine k_get C dX6_findRows_23 0 rfl (ci := 6) rfl hin_X6_findRows_6 2 (by decide) (List.mem_of_getElem? (i := 4) rfl) rfl 26 rfl ?_
  refine k_aload_n C dX6_findRows_26 0 rfl rfl 27 rfl ?_
  refine k_get C dX6_findRows_27 0 rfl (ci := 6) rfl hin_X6_findRows_6 6 (by decide) (List.mem_of_getElem? (i := 3) rfl) rfl 30 rfl ?_
  refine k_iload_n C dX6_findRows_30 1 rfl rfl 31 rfl ?_
  refine k_iconst C dX6_findRows_31 32 rfl ?_
  have hM := c_X6_grow (l := l) (D := D) (cI := cI) (cJ := cJ) (cZ := cZ) 4 qr qs qw S_r_8 T_r_8 U_r G_s R_w_15 x1 0 _ h
  refine k_callS C dX6_findRows_32 hM gX6_findRows_X6_grow rfl sg_X6_grow rfl (Nat.le_of_ble_eq_true rfl) ⟨⟨rfl, rfl⟩, by decide, by decide⟩ ⟨Nat.le_refl 0, Nat.le_refl 0⟩ [10, 11, 12, 13, 14, 15, 16, 17, 18, 19, 20, 21, 22, 23] [0, 1, 2, 3, 4, 5, 6, 7, 8, 9] rfl rfl rfl rfl (by decide) 0 0 ⟨rfl, rfl⟩ 35 rfl (fun v w1 hq32 => ?_)
  obtain ⟨T_r_32, U_r_32, R_w_32, rfl, rfl, h⟩ := hq32
  refine k_perm C [0, 1, 2, 3, 4, 5, 6, 7, 8, 9, 10, 11, 12, 13, 14, 15, 16, 17, 18, 19, 20, 21, 22, 23] [] ((wdX cI cJ cZ qh qn qr qs qp qi qj qw qo ) ++ (wdW cI cJ cZ qn S_n T_n U_n) ++ (wdW cI cJ cZ qr S_r_8 T_r_32 U_r_32) ++ (wdG cI cJ cZ qs G_s) ++ (wdR cI cJ cZ qw R_w_32)) rfl rfl rfl ?_
  exact k_vret C dX6_findRows_35 ⟨S_r_8, T_r_32, U_r_32, R_w_32, rfl, rfl, h⟩

/-! X6_who -/
abbrev rm_X6_who : Room := { frames := 10, cells := 0, slots := 0, locals := 288 }
theorem sg_X6_who : yX6_who.cls ≠ "java/lang/invoke/MethodHandle" ∧ yX6_who.cls ≠ "java/lang/invoke/VarHandle" ∧ (parseMethodDescriptor yX6_who.desc).map (fun d => d.parameters.length) = some 2 := by decide +kernel
theorem hin_X6_who_3 : ∀ w ∈ wsX30, w ∈ wsX6_who := fun _ h => List.mem_cons_of_mem _ (List.mem_append_left _ (List.mem_append_left _ (List.mem_append_right _ h)))
theorem hin_X6_who_6 : ∀ w ∈ wsX60, w ∈ wsX6_who := fun _ h => List.mem_cons_of_mem _ (List.mem_append_left _ (List.mem_append_left _ (List.mem_append_left _ (List.mem_append_right _ h))))
def rp_X6_who (cI cJ cZ : ClassId) (qh : Nat → Nat) (qn : Nat → Nat) (qr : Nat → Nat) (qs : Nat → Nat) (qp : Nat → Nat) (qi : Nat → Nat) (qj : Nat → Nat) (qw : Nat → Nat) (qo : Nat → Nat) (S_n : gWS) (T_n : gWT) (U_n : gWU) (G_s : gGG) (Q : Int → gWS → gWT → gWU → gRR → Prop) : Option Value → va_W → Prop := fun v w1 => ∃ (r : Int) (S_r : gWS) (T_r : gWT) (U_r : gWU) (R_w : gRR), v = some (.int (iI r)) ∧ w1 = (wdX cI cJ cZ qh qn qr qs qp qi qj qw qo ) ++ (wdW cI cJ cZ qn S_n T_n U_n) ++ (wdW cI cJ cZ qr S_r T_r U_r) ++ (wdG cI cJ cZ qs G_s) ++ (wdR cI cJ cZ qw R_w) ∧ Q r S_r T_r U_r R_w
def wp_X6_who (S_n : gWS) (T_n : gWT) (S_r : gWS) (T_r : gWT) (U_r : gWU) (G_s : gGG) (R_w : gRR) (x1 : Int) (x2 : Int) (Q : Int → gWS → gWT → gWU → gRR → Prop) : Prop :=
    wp_X6_isOutside x1 0 2 (fun (r3 : Int) => ((¬ r3 = 0 → Q (-2) S_r T_r U_r R_w) ∧ (¬ (¬ r3 = 0) → wp_X6_isOutside x2 0 2 (fun (r12 : Int) => ((r12 = 0 → wp_X6_findRows S_n T_n S_r T_r U_r G_s R_w x1 (fun (S_r_23 : gWS) (T_r_23 : gWT) (U_r_23 : gWU) (R_w_23 : gRR) => rI x2 ∧ ((¬ x2 = 0 → ((¬ x2 = 1 → Q R_w_23.2.2.1 S_r_23 T_r_23 U_r_23 R_w_23) ∧ (¬ (¬ x2 = 1) → Q R_w_23.2.1 S_r_23 T_r_23 U_r_23 R_w_23))) ∧ (¬ (¬ x2 = 0) → Q R_w_23.1 S_r_23 T_r_23 U_r_23 R_w_23)))) ∧ (¬ (r12 = 0) → Q (-2) S_r T_r U_r R_w))))))

set_option maxHeartbeats 4000000 in
set_option maxRecDepth 20000 in
theorem c_X6_who {l : Launch} {D : va_G} {cI cJ cZ : ClassId} (qh : Nat → Nat) (qn : Nat → Nat) (qr : Nat → Nat) (qs : Nat → Nat) (qp : Nat → Nat) (qi : Nat → Nat) (qj : Nat → Nat) (qw : Nat → Nat) (qo : Nat → Nat) (S_n : gWS) (T_n : gWT) (U_n : gWU) (S_r : gWS) (T_r : gWT) (U_r : gWU) (G_s : gGG) (R_w : gRR) (x1 : Int) (x2 : Int) (Q : Int → gWS → gWT → gWU → gRR → Prop) (h : wp_X6_who S_n T_n S_r T_r U_r G_s R_w x1 x2 Q) : KM l D (kT cI cJ cZ) 0 0 yX6_who wsX6_who rm_X6_who [.ref (qh 0), .int (iI x1), .int (iI x2)] ((wdX cI cJ cZ qh qn qr qs qp qi qj qw qo ) ++ (wdW cI cJ cZ qn S_n T_n U_n) ++ (wdW cI cJ cZ qr S_r T_r U_r) ++ (wdG cI cJ cZ qs G_s) ++ (wdR cI cJ cZ qw R_w)) (rp_X6_who cI cJ cZ qh qn qr qs qp qi qj qw qo S_n T_n U_n G_s Q) := by
  refine KM_intro (lv := [(0, .ref (qh 0)), (1, .int (iI x1)), (2, .int (iI x2))]) false rfl (by decide) (Nat.le_of_ble_eq_true rfl) rfl (fun h => absurd h (by decide)) (fun v ws hq => by obtain ⟨r, S_r, T_r, U_r, R_w, rfl, rfl, _⟩ := hq; exact Or.inr (Or.inl ⟨rfl, _, rfl⟩)) (fun A K C => ?_)
  refine k_iload_n C dX6_who_0 1 rfl rfl 1 rfl ?_
  refine k_iconst C dX6_who_1 2 rfl ?_
  refine k_iconst C dX6_who_2 3 rfl ?_
  have hM := c_X6_isOutside (l := l) (D := D) (cI := cI) (cJ := cJ) (cZ := cZ) x1 0 2 _ h
  refine k_callS C dX6_who_3 hM gX6_who_X6_isOutside rfl sg_X6_isOutside rfl (Nat.le_of_ble_eq_true rfl) ⟨⟨rfl, rfl⟩, by decide, by decide⟩ ⟨Nat.le_refl 0, Nat.le_refl 0⟩ [] [0, 1, 2, 3, 4, 5, 6, 7, 8, 9, 10, 11, 12, 13, 14, 15, 16, 17, 18, 19, 20, 21, 22, 23] rfl rfl rfl rfl (by decide) 0 0 ⟨rfl, rfl⟩ 6 rfl (fun v w1 hq3 => ?_)
  obtain ⟨r3, rfl, rfl, hb3, h⟩ := hq3
  refine k_perm C [0, 1, 2, 3, 4, 5, 6, 7, 8, 9, 10, 11, 12, 13, 14, 15, 16, 17, 18, 19, 20, 21, 22, 23] [.int (iI r3)] ((wdX cI cJ cZ qh qn qr qs qp qi qj qw qo ) ++ (wdW cI cJ cZ qn S_n T_n U_n) ++ (wdW cI cJ cZ qr S_r T_r U_r) ++ (wdG cI cJ cZ qs G_s) ++ (wdR cI cJ cZ qw R_w)) rfl rfl rfl ?_
  obtain ⟨ht, hf⟩ := h
  refine k_if_ne C dX6_who_6 (by rcases hb3 with rfl | rfl <;> decide) 18 9 (by decide) rfl (fun hc6 => ?_) (fun hc6 => ?_)
  · have h := ht hc6; clear ht hf
    refine k_bipush C dX6_who_18 (by decide) 20 rfl ?_
    exact k_iret C dX6_who_20 ⟨(-2), S_r, T_r, U_r, R_w, rfl, rfl, h⟩
  · have h := hf hc6; clear ht hf
    refine k_iload_n C dX6_who_9 2 rfl rfl 10 rfl ?_
    refine k_iconst C dX6_who_10 11 rfl ?_
    refine k_iconst C dX6_who_11 12 rfl ?_
    have hM := c_X6_isOutside (l := l) (D := D) (cI := cI) (cJ := cJ) (cZ := cZ) x2 0 2 _ h
    refine k_callS C dX6_who_12 hM gX6_who_X6_isOutside rfl sg_X6_isOutside rfl (Nat.le_of_ble_eq_true rfl) ⟨⟨rfl, rfl⟩, by decide, by decide⟩ ⟨Nat.le_refl 0, Nat.le_refl 0⟩ [] [0, 1, 2, 3, 4, 5, 6, 7, 8, 9, 10, 11, 12, 13, 14, 15, 16, 17, 18, 19, 20, 21, 22, 23] rfl rfl rfl rfl (by decide) 0 0 ⟨rfl, rfl⟩ 15 rfl (fun v w1 hq12 => ?_)
    obtain ⟨r12, rfl, rfl, hb12, h⟩ := hq12
    refine k_perm C [0, 1, 2, 3, 4, 5, 6, 7, 8, 9, 10, 11, 12, 13, 14, 15, 16, 17, 18, 19, 20, 21, 22, 23] [.int (iI r12)] ((wdX cI cJ cZ qh qn qr qs qp qi qj qw qo ) ++ (wdW cI cJ cZ qn S_n T_n U_n) ++ (wdW cI cJ cZ qr S_r T_r U_r) ++ (wdG cI cJ cZ qs G_s) ++ (wdR cI cJ cZ qw R_w)) rfl rfl rfl ?_
    obtain ⟨ht, hf⟩ := h
    refine k_if_eq C dX6_who_15 (by rcases hb12 with rfl | rfl <;> decide) 21 18 (by decide) rfl (fun hc15 => ?_) (fun hc15 => ?_)
    · have h := ht hc15; clear ht hf
      refine k_aload_n C dX6_who_21 0 rfl rfl 22 rfl ?_
      refine k_iload_n C dX6_who_22 1 rfl rfl 23 rfl ?_
      have hM := c_X6_findRows (l := l) (D := D) (cI := cI) (cJ := cJ) (cZ := cZ) qh qn qr qs qp qi qj qw qo S_n T_n U_n S_r T_r U_r G_s R_w x1 _ h
      refine k_callV C dX6_who_23 hM gX6_who_X6_findRows rfl sg_X6_findRows 6 rfl rfl rfl (Nat.le_of_ble_eq_true rfl) ⟨⟨rfl, rfl⟩, by decide, by decide⟩ ⟨Nat.le_refl 0, Nat.le_refl 0⟩ [0, 1, 2, 3, 4, 5, 6, 7, 8, 9, 10, 11, 12, 13, 14, 15, 16, 17, 18, 19, 20, 21, 22, 23] [] rfl rfl rfl rfl (by decide) 0 0 ⟨rfl, rfl⟩ 26 rfl (fun v w1 hq23 => ?_)
      obtain ⟨S_r_23, T_r_23, U_r_23, R_w_23, rfl, rfl, h⟩ := hq23
      refine k_perm C [0, 1, 2, 3, 4, 5, 6, 7, 8, 9, 10, 11, 12, 13, 14, 15, 16, 17, 18, 19, 20, 21, 22, 23] [] ((wdX cI cJ cZ qh qn qr qs qp qi qj qw qo ) ++ (wdW cI cJ cZ qn S_n T_n U_n) ++ (wdW cI cJ cZ qr S_r_23 T_r_23 U_r_23) ++ (wdG cI cJ cZ qs G_s) ++ (wdR cI cJ cZ qw R_w_23)) rfl rfl rfl ?_
      refine k_iload_n C dX6_who_26 2 rfl rfl 27 rfl ?_
      obtain ⟨hr27a, h⟩ := h
      obtain ⟨ht, hf⟩ := h
      refine k_if_ne C dX6_who_27 hr27a 40 30 (by decide) rfl (fun hc27 => ?_) (fun hc27 => ?_)
      · have h := ht hc27; clear ht hf
        refine k_iload_n C dX6_who_40 2 rfl rfl 41 rfl ?_
        refine k_iconst C dX6_who_41 42 rfl ?_
        obtain ⟨ht, hf⟩ := h
        refine k_icmp_ne C dX6_who_42 ⟨hr27a, (by decide)⟩ 55 45 (by decide) rfl (fun hc42 => ?_) (fun hc42 => ?_)
        · have h := ht hc42; clear ht hf
          refine k_aload_n C dX6_who_55 0 rfl rfl 56 rfl ?_
          refine k_get C dX6_who_56 0 rfl (ci := 6) rfl hin_X6_who_6 6 (by decide) (List.mem_of_getElem? (i := 1) rfl) rfl 59 rfl ?_
          refine k_getN C dX6_who_59 22 rfl (ci := 3) rfl hin_X6_who_3 2 (by decide) (List.mem_of_getElem? (i := 25) rfl) rfl 62 rfl ?_
          exact k_iret C dX6_who_62 ⟨R_w_23.2.2.1, S_r_23, T_r_23, U_r_23, R_w_23, rfl, rfl, h⟩
        · have h := hf hc42; clear ht hf
          refine k_aload_n C dX6_who_45 0 rfl rfl 46 rfl ?_
          refine k_get C dX6_who_46 0 rfl (ci := 6) rfl hin_X6_who_6 6 (by decide) (List.mem_of_getElem? (i := 1) rfl) rfl 49 rfl ?_
          refine k_getN C dX6_who_49 22 rfl (ci := 3) rfl hin_X6_who_3 1 (by decide) (List.mem_of_getElem? (i := 24) rfl) rfl 52 rfl ?_
          refine k_goto C dX6_who_52 62 (by decide) ?_
          exact k_iret C dX6_who_62 ⟨R_w_23.2.1, S_r_23, T_r_23, U_r_23, R_w_23, rfl, rfl, h⟩
      · have h := hf hc27; clear ht hf
        refine k_aload_n C dX6_who_30 0 rfl rfl 31 rfl ?_
        refine k_get C dX6_who_31 0 rfl (ci := 6) rfl hin_X6_who_6 6 (by decide) (List.mem_of_getElem? (i := 1) rfl) rfl 34 rfl ?_
        refine k_getN C dX6_who_34 22 rfl (ci := 3) rfl hin_X6_who_3 0 (by decide) (List.mem_of_getElem? (i := 23) rfl) rfl 37 rfl ?_
        refine k_goto C dX6_who_37 62 (by decide) ?_
        exact k_iret C dX6_who_62 ⟨R_w_23.1, S_r_23, T_r_23, U_r_23, R_w_23, rfl, rfl, h⟩
    · have h := hf hc15; clear ht hf
      refine k_bipush C dX6_who_18 (by decide) 20 rfl ?_
      exact k_iret C dX6_who_20 ⟨(-2), S_r, T_r, U_r, R_w, rfl, rfl, h⟩

/-! X6_look -/
abbrev rm_X6_look : Room := { frames := 10, cells := 0, slots := 0, locals := 288 }
theorem sg_X6_look : yX6_look.cls ≠ "java/lang/invoke/MethodHandle" ∧ yX6_look.cls ≠ "java/lang/invoke/VarHandle" ∧ (parseMethodDescriptor yX6_look.desc).map (fun d => d.parameters.length) = some 2 := by decide +kernel
theorem hin_X6_look_3 : ∀ w ∈ wsX30, w ∈ wsX6_look := fun _ h => List.mem_cons_of_mem _ (List.mem_append_left _ (List.mem_append_left _ (List.mem_append_right _ h)))
theorem hin_X6_look_5 : ∀ w ∈ wsX50, w ∈ wsX6_look := fun _ h => List.mem_cons_of_mem _ (List.mem_append_left _ (List.mem_append_right _ h))
theorem hin_X6_look_6 : ∀ w ∈ wsX60, w ∈ wsX6_look := fun _ h => List.mem_cons_of_mem _ (List.mem_append_left _ (List.mem_append_left _ (List.mem_append_left _ (List.mem_append_right _ h))))
def rp_X6_look (cI cJ cZ : ClassId) (qh : Nat → Nat) (qn : Nat → Nat) (qr : Nat → Nat) (qs : Nat → Nat) (qp : Nat → Nat) (qi : Nat → Nat) (qj : Nat → Nat) (qw : Nat → Nat) (qo : Nat → Nat) (S_n : gWS) (T_n : gWT) (U_n : gWU) (G_s : gGG) (Q : Int → gWS → gWT → gWU → gRR → Prop) : Option Value → va_W → Prop := fun v w1 => ∃ (r : Int) (S_r : gWS) (T_r : gWT) (U_r : gWU) (R_w : gRR), v = some (.int (iI r)) ∧ w1 = (wdX cI cJ cZ qh qn qr qs qp qi qj qw qo ) ++ (wdW cI cJ cZ qn S_n T_n U_n) ++ (wdW cI cJ cZ qr S_r T_r U_r) ++ (wdG cI cJ cZ qs G_s) ++ (wdR cI cJ cZ qw R_w) ∧ Q r S_r T_r U_r R_w
def wp_X6_look_58 (G_s : gGG) (K_114 : Int → Int → Int → gWS → gWT → gWU → gRR → Prop)  (Q : Int → gWS → gWT → gWU → gRR → Prop) : Nat → Int → Int → Int → Int → Int → gWS → gWT → gWU → gRR → Prop
  | 0, _, _, _, _, _, _, _, _, _ => False
  | n58 + 1, x2, x3, x4, x5, x6, S_r, T_r, U_r, R_w =>
    rI x6 ∧ rI x5 ∧ ((x5 ≤ x6 → K_114 x2 x3 x4 S_r T_r U_r R_w) ∧ (¬ (x5 ≤ x6) → wp_X4_hasSeen G_s x6 (fun (r71 : Int) => ((¬ r71 = 0 → wp_X6_look_58 G_s K_114 Q n58 x2 x3 x4 x5 (x6 + 1) S_r T_r U_r R_w) ∧ (¬ (¬ r71 = 0) → wp_X3_mostLeft R_w x6 (fun (r83 : Int) => rI x3 ∧ ((x3 = (-6) → wp_X6_look_58 G_s K_114 Q n58 x2 x6 r83 x5 (x6 + 1) S_r T_r U_r R_w) ∧ (¬ (x3 = (-6)) → rI r83 ∧ rI x4 ∧ ((x4 ≤ r83 → wp_X6_look_58 G_s K_114 Q n58 x2 x3 x4 x5 (x6 + 1) S_r T_r U_r R_w) ∧ (¬ (x4 ≤ r83) → wp_X6_look_58 G_s K_114 Q n58 x2 x6 r83 x5 (x6 + 1) S_r T_r U_r R_w))))))))))
def wp_X6_look (S_n : gWS) (T_n : gWT) (S_r : gWS) (T_r : gWT) (U_r : gWU) (G_s : gGG) (R_w : gRR) (x1 : Int) (x2 : Int) (Q : Int → gWS → gWT → gWU → gRR → Prop) : Prop :=
    wp_X6_isOutside x1 0 2 (fun (r3 : Int) => ((¬ r3 = 0 → Q (-2) S_r T_r U_r R_w) ∧ (¬ (¬ r3 = 0) → wp_X6_isOutside x2 0 1 (fun (r12 : Int) => ((r12 = 0 → wp_X6_findRows S_n T_n S_r T_r U_r G_s R_w x1 (fun (S_r_23 : gWS) (T_r_23 : gWT) (U_r_23 : gWU) (R_w_23 : gRR) => rI R_w_23.1 ∧ ((¬ R_w_23.1 = 0 → ∃ m58, wp_X6_look_58 G_s (fun (x2 : Int) (x3 : Int) (x4 : Int) (S_r : gWS) (T_r : gWT) (U_r : gWU) (R_w : gRR) => rI x2 ∧ ((¬ x2 = 0 → Q x4 S_r T_r U_r R_w) ∧ (¬ (¬ x2 = 0) → Q x3 S_r T_r U_r R_w))) Q m58 x2 (-6) (-6) S_n.1 0 S_r_23 T_r_23 U_r_23 R_w_23) ∧ (¬ (¬ R_w_23.1 = 0) → Q (-6) S_r_23 T_r_23 U_r_23 R_w_23)))) ∧ (¬ (r12 = 0) → Q (-2) S_r T_r U_r R_w))))))
set_option maxHeartbeats 4000000 in
set_option maxRecDepth 20000 in
theorem w_X6_look_58 {l : Launch} {D : va_G} {cI cJ cZ : ClassId} {A : Nat → Prop} {K : KT} {qh : Nat → Nat} {qn : Nat → Nat} {qr : Nat → Nat} {qs : Nat → Nat} {qp : Nat → Nat} {qi : Nat → Nat} {qj : Nat → Nat} {qw : Nat → Nat} {qo : Nat → Nat} {S_n : gWS} {T_n : gWT} {U_n : gWU} {G_s : gGG} {Q : Int → gWS → gWT → gWU → gRR → Prop} {K_114 : Int → Int → Int → gWS → gWT → gWU → gRR → Prop} (C : KC cX6_look yX6_look.cls wsX6_look rm_X6_look 8 D (kT cI cJ cZ) A l false (rp_X6_look cI cJ cZ qh qn qr qs qp qi qj qw qo S_n T_n U_n G_s Q) 0 0 K) : ∀ (n : Nat) (x2 : Int) (x3 : Int) (x4 : Int) (x5 : Int) (x6 : Int) (S_r : gWS) (T_r : gWT) (U_r : gWU) (R_w : gRR), wp_X6_look_58 G_s K_114 Q n x2 x3 x4 x5 x6 S_r T_r U_r R_w → (∀ (x2 : Int) (x3 : Int) (x4 : Int) (S_r : gWS) (T_r : gWT) (U_r : gWU) (R_w : gRR), K_114 x2 x3 x4 S_r T_r U_r R_w → K 0 0 114 [(2, .int (iI x2)), (3, .int (iI x3)), (4, .int (iI x4))] [] ((wdX cI cJ cZ qh qn qr qs qp qi qj qw qo ) ++ (wdW cI cJ cZ qn S_n T_n U_n) ++ (wdW cI cJ cZ qr S_r T_r U_r) ++ (wdG cI cJ cZ qs G_s) ++ (wdR cI cJ cZ qw R_w))) → K 0 0 58 [(0, .ref (qh 0)), (2, .int (iI x2)), (3, .int (iI x3)), (4, .int (iI x4)), (5, .int (iI x5)), (6, .int (iI x6))] [] ((wdX cI cJ cZ qh qn qr qs qp qi qj qw qo ) ++ (wdW cI cJ cZ qn S_n T_n U_n) ++ (wdW cI cJ cZ qr S_r T_r U_r) ++ (wdG cI cJ cZ qs G_s) ++ (wdR cI cJ cZ qw R_w)) := by
  intro n
  induction n with
  | zero => intro x2 x3 x4 x5 x6 S_r T_r U_r R_w h; exact h.elim
  | succ n ih =>
    intro x2 x3 x4 x5 x6 S_r T_r U_r R_w h hK_114
    refine k_iload C dX6_look_58 5 rfl 60 rfl ?_
    refine k_iload C dX6_look_60 4 rfl 62 rfl ?_
    obtain ⟨hr62a, hr62b, h⟩ := h
    obtain ⟨ht, hf⟩ := h
    refine k_icmp_ge C dX6_look_62 ⟨hr62a, hr62b⟩ 114 65 (by decide) rfl (fun hc62 => ?_) (fun hc62 => ?_)
    · have h := ht hc62; clear ht hf
      refine k_lv C [1, 2, 3] [(2, .int (iI x2)), (3, .int (iI x3)), (4, .int (iI x4))] rfl ?_
      exact hK_114 x2 x3 x4 S_r T_r U_r R_w h
    · have h := hf hc62; clear ht hf
      refine k_aload_n C dX6_look_65 0 rfl rfl 66 rfl ?_
      refine k_get C dX6_look_66 0 rfl (ci := 6) rfl hin_X6_look_6 2 (by decide) (List.mem_of_getElem? (i := 3) rfl) rfl 69 rfl ?_
      refine k_iload C dX6_look_69 5 rfl 71 rfl ?_
      have hM := c_X4_hasSeen (l := l) (D := D) (cI := cI) (cJ := cJ) (cZ := cZ) qs G_s x6 _ h
      refine k_callV C dX6_look_71 hM gX6_look_X4_hasSeen rfl sg_X4_hasSeen 4 rfl rfl rfl (Nat.le_of_ble_eq_true rfl) ⟨⟨rfl, rfl⟩, by decide, by decide⟩ ⟨Nat.le_refl 0, Nat.le_refl 0⟩ [19, 20, 21] [0, 1, 2, 3, 4, 5, 6, 7, 8, 9, 10, 11, 12, 13, 14, 15, 16, 17, 18, 22, 23] rfl rfl rfl rfl (by decide) 0 0 ⟨rfl, rfl⟩ 74 rfl (fun v w1 hq71 => ?_)
      obtain ⟨r71, rfl, rfl, hb71, h⟩ := hq71
      refine k_perm C [0, 1, 2, 3, 4, 5, 6, 7, 8, 9, 10, 11, 12, 13, 14, 15, 16, 17, 18, 21, 22, 23, 19, 20] [.int (iI r71)] ((wdX cI cJ cZ qh qn qr qs qp qi qj qw qo ) ++ (wdW cI cJ cZ qn S_n T_n U_n) ++ (wdW cI cJ cZ qr S_r T_r U_r) ++ (wdG cI cJ cZ qs G_s) ++ (wdR cI cJ cZ qw R_w)) rfl rfl rfl ?_
      obtain ⟨ht, hf⟩ := h
      refine k_if_ne C dX6_look_74 (by rcases hb71 with rfl | rfl <;> decide) 108 77 (by decide) rfl (fun hc74 => ?_) (fun hc74 => ?_)
      · have h := ht hc74; clear ht hf
        refine k_iinc (j := 5) C dX6_look_108 rfl (by decide) [(6, .int (iI (x6 + 1))), (0, .ref (qh 0)), (2, .int (iI x2)), (3, .int (iI x3)), (4, .int (iI x4)), (5, .int (iI x5))] rfl 111 rfl ?_
        refine k_goto C dX6_look_111 58 (by decide) ?_
        refine k_lv C [1, 2, 3, 4, 5, 0] [(0, .ref (qh 0)), (2, .int (iI x2)), (3, .int (iI x3)), (4, .int (iI x4)), (5, .int (iI x5)), (6, .int (iI (x6 + 1)))] rfl ?_
        exact ih x2 x3 x4 x5 (x6 + 1) S_r T_r U_r R_w h hK_114
      · have h := hf hc74; clear ht hf
        refine k_aload_n C dX6_look_77 0 rfl rfl 78 rfl ?_
        refine k_get C dX6_look_78 0 rfl (ci := 6) rfl hin_X6_look_6 6 (by decide) (List.mem_of_getElem? (i := 1) rfl) rfl 81 rfl ?_
        refine k_iload C dX6_look_81 5 rfl 83 rfl ?_
        have hM := c_X3_mostLeft (l := l) (D := D) (cI := cI) (cJ := cJ) (cZ := cZ) qw R_w x6 _ h
        refine k_callV C dX6_look_83 hM gX6_look_X3_mostLeft rfl sg_X3_mostLeft 3 rfl rfl rfl (Nat.le_of_ble_eq_true rfl) ⟨⟨rfl, rfl⟩, by decide, by decide⟩ ⟨Nat.le_refl 0, Nat.le_refl 0⟩ [22, 23] [0, 1, 2, 3, 4, 5, 6, 7, 8, 9, 10, 11, 12, 13, 14, 15, 16, 17, 18, 19, 20, 21] rfl rfl rfl rfl (by decide) 0 0 ⟨rfl, rfl⟩ 86 rfl (fun v w1 hq83 => ?_)
        obtain ⟨r83, rfl, rfl, h⟩ := hq83
        refine k_perm C [0, 1, 2, 3, 4, 5, 6, 7, 8, 9, 10, 11, 12, 13, 14, 15, 16, 17, 18, 19, 20, 21, 22, 23] [.int (iI r83)] ((wdX cI cJ cZ qh qn qr qs qp qi qj qw qo ) ++ (wdW cI cJ cZ qn S_n T_n U_n) ++ (wdW cI cJ cZ qr S_r T_r U_r) ++ (wdG cI cJ cZ qs G_s) ++ (wdR cI cJ cZ qw R_w)) rfl rfl rfl ?_
        refine k_istore C dX6_look_86 (by decide) [(7, .int (iI r83)), (0, .ref (qh 0)), (2, .int (iI x2)), (3, .int (iI x3)), (4, .int (iI x4)), (5, .int (iI x5)), (6, .int (iI x6))] rfl 88 rfl ?_
        refine k_iload_n C dX6_look_88 3 rfl rfl 89 rfl ?_
        refine k_bipush C dX6_look_89 (by decide) 91 rfl ?_
        obtain ⟨hr91a, h⟩ := h
        obtain ⟨ht, hf⟩ := h
        refine k_icmp_eq C dX6_look_91 ⟨hr91a, (by decide)⟩ 101 94 (by decide) rfl (fun hc91 => ?_) (fun hc91 => ?_)
        · have h := ht hc91; clear ht hf
          refine k_iload C dX6_look_101 6 rfl 103 rfl ?_
          refine k_istore_n C dX6_look_103 rfl (by decide) [(3, .int (iI x6)), (7, .int (iI r83)), (0, .ref (qh 0)), (2, .int (iI x2)), (4, .int (iI x4)), (5, .int (iI x5)), (6, .int (iI x6))] rfl 104 rfl ?_
          refine k_iload C dX6_look_104 1 rfl 106 rfl ?_
          refine k_istore C dX6_look_106 (by decide) [(4, .int (iI r83)), (3, .int (iI x6)), (7, .int (iI r83)), (0, .ref (qh 0)), (2, .int (iI x2)), (5, .int (iI x5)), (6, .int (iI x6))] rfl 108 rfl ?_
          refine k_iinc (j := 6) C dX6_look_108 rfl (by decide) [(6, .int (iI (x6 + 1))), (4, .int (iI r83)), (3, .int (iI x6)), (7, .int (iI r83)), (0, .ref (qh 0)), (2, .int (iI x2)), (5, .int (iI x5))] rfl 111 rfl ?_
          refine k_goto C dX6_look_111 58 (by decide) ?_
          refine k_lv C [4, 5, 2, 1, 6, 0] [(0, .ref (qh 0)), (2, .int (iI x2)), (3, .int (iI x6)), (4, .int (iI r83)), (5, .int (iI x5)), (6, .int (iI (x6 + 1)))] rfl ?_
          exact ih x2 x6 r83 x5 (x6 + 1) S_r T_r U_r R_w h hK_114
        · have h := hf hc91; clear ht hf
          refine k_iload C dX6_look_94 0 rfl 96 rfl ?_
          refine k_iload C dX6_look_96 4 rfl 98 rfl ?_
          obtain ⟨hr98a, hr98b, h⟩ := h
          obtain ⟨ht, hf⟩ := h
          refine k_icmp_ge C dX6_look_98 ⟨hr98a, hr98b⟩ 108 101 (by decide) rfl (fun hc98 => ?_) (fun hc98 => ?_)
          · have h := ht hc98; clear ht hf
            refine k_iinc (j := 6) C dX6_look_108 rfl (by decide) [(6, .int (iI (x6 + 1))), (7, .int (iI r83)), (0, .ref (qh 0)), (2, .int (iI x2)), (3, .int (iI x3)), (4, .int (iI x4)), (5, .int (iI x5))] rfl 111 rfl ?_
            refine k_goto C dX6_look_111 58 (by decide) ?_
            refine k_lv C [2, 3, 4, 5, 6, 0] [(0, .ref (qh 0)), (2, .int (iI x2)), (3, .int (iI x3)), (4, .int (iI x4)), (5, .int (iI x5)), (6, .int (iI (x6 + 1)))] rfl ?_
            exact ih x2 x3 x4 x5 (x6 + 1) S_r T_r U_r R_w h hK_114
          · have h := hf hc98; clear ht hf
            refine k_iload C dX6_look_101 6 rfl 103 rfl ?_
            refine k_istore_n C dX6_look_103 rfl (by decide) [(3, .int (iI x6)), (7, .int (iI r83)), (0, .ref (qh 0)), (2, .int (iI x2)), (4, .int (iI x4)), (5, .int (iI x5)), (6, .int (iI x6))] rfl 104 rfl ?_
            refine k_iload C dX6_look_104 1 rfl 106 rfl ?_
            refine k_istore C dX6_look_106 (by decide) [(4, .int (iI r83)), (3, .int (iI x6)), (7, .int (iI r83)), (0, .ref (qh 0)), (2, .int (iI x2)), (5, .int (iI x5)), (6, .int (iI x6))] rfl 108 rfl ?_
            refine k_iinc (j := 6) C dX6_look_108 rfl (by decide) [(6, .int (iI (x6 + 1))), (4, .int (iI r83)), (3, .int (iI x6)), (7, .int (iI r83)), (0, .ref (qh 0)), (2, .int (iI x2)), (5, .int (iI x5))] rfl 111 rfl ?_
            refine k_goto C dX6_look_111 58 (by decide) ?_
            refine k_lv C [4, 5, 2, 1, 6, 0] [(0, .ref (qh 0)), (2, .int (iI x2)), (3, .int (iI x6)), (4, .int (iI r83)), (5, .int (iI x5)), (6, .int (iI (x6 + 1)))] rfl ?_
            exact ih x2 x6 r83 x5 (x6 + 1) S_r T_r U_r R_w h hK_114
set_option maxHeartbeats 4000000 in
set_option maxRecDepth 20000 in
theorem c_X6_look {l : Launch} {D : va_G} {cI cJ cZ : ClassId} (qh : Nat → Nat) (qn : Nat → Nat) (qr : Nat → Nat) (qs : Nat → Nat) (qp : Nat → Nat) (qi : Nat → Nat) (qj : Nat → Nat) (qw : Nat → Nat) (qo : Nat → Nat) (S_n : gWS) (T_n : gWT) (U_n : gWU) (S_r : gWS) (T_r : gWT) (U_r : gWU) (G_s : gGG) (R_w : gRR) (x1 : Int) (x2 : Int) (Q : Int → gWS → gWT → gWU → gRR → Prop) (h : wp_X6_look S_n T_n S_r T_r U_r G_s R_w x1 x2 Q) : KM l D (kT cI cJ cZ) 0 0 yX6_look wsX6_look rm_X6_look [.ref (qh 0), .int (iI x1), .int (iI x2)] ((wdX cI cJ cZ qh qn qr qs qp qi qj qw qo ) ++ (wdW cI cJ cZ qn S_n T_n U_n) ++ (wdW cI cJ cZ qr S_r T_r U_r) ++ (wdG cI cJ cZ qs G_s) ++ (wdR cI cJ cZ qw R_w)) (rp_X6_look cI cJ cZ qh qn qr qs qp qi qj qw qo S_n T_n U_n G_s Q) := by
  refine KM_intro (lv := [(0, .ref (qh 0)), (1, .int (iI x1)), (2, .int (iI x2))]) false rfl (by decide) (Nat.le_of_ble_eq_true rfl) rfl (fun h => absurd h (by decide)) (fun v ws hq => by obtain ⟨r, S_r, T_r, U_r, R_w, rfl, rfl, _⟩ := hq; exact Or.inr (Or.inl ⟨rfl, _, rfl⟩)) (fun A K C => ?_)
  refine k_iload_n C dX6_look_0 1 rfl rfl 1 rfl ?_
  refine k_iconst C dX6_look_1 2 rfl ?_
  refine k_iconst C dX6_look_2 3 rfl ?_
  have hM := c_X6_isOutside (l := l) (D := D) (cI := cI) (cJ := cJ) (cZ := cZ) x1 0 2 _ h
  refine k_callS C dX6_look_3 hM gX6_look_X6_isOutside rfl sg_X6_isOutside rfl (Nat.le_of_ble_eq_true rfl) ⟨⟨rfl, rfl⟩, by decide, by decide⟩ ⟨Nat.le_refl 0, Nat.le_refl 0⟩ [] [0, 1, 2, 3, 4, 5, 6, 7, 8, 9, 10, 11, 12, 13, 14, 15, 16, 17, 18, 19, 20, 21, 22, 23] rfl rfl rfl rfl (by decide) 0 0 ⟨rfl, rfl⟩ 6 rfl (fun v w1 hq3 => ?_)
  obtain ⟨r3, rfl, rfl, hb3, h⟩ := hq3
  refine k_perm C [0, 1, 2, 3, 4, 5, 6, 7, 8, 9, 10, 11, 12, 13, 14, 15, 16, 17, 18, 19, 20, 21, 22, 23] [.int (iI r3)] ((wdX cI cJ cZ qh qn qr qs qp qi qj qw qo ) ++ (wdW cI cJ cZ qn S_n T_n U_n) ++ (wdW cI cJ cZ qr S_r T_r U_r) ++ (wdG cI cJ cZ qs G_s) ++ (wdR cI cJ cZ qw R_w)) rfl rfl rfl ?_
  obtain ⟨ht, hf⟩ := h
  refine k_if_ne C dX6_look_6 (by rcases hb3 with rfl | rfl <;> decide) 18 9 (by decide) rfl (fun hc6 => ?_) (fun hc6 => ?_)
  · have h := ht hc6; clear ht hf
    refine k_bipush C dX6_look_18 (by decide) 20 rfl ?_
    exact k_iret C dX6_look_20 ⟨(-2), S_r, T_r, U_r, R_w, rfl, rfl, h⟩
  · have h := hf hc6; clear ht hf
    refine k_iload_n C dX6_look_9 2 rfl rfl 10 rfl ?_
    refine k_iconst C dX6_look_10 11 rfl ?_
    refine k_iconst C dX6_look_11 12 rfl ?_
    have hM := c_X6_isOutside (l := l) (D := D) (cI := cI) (cJ := cJ) (cZ := cZ) x2 0 1 _ h
    refine k_callS C dX6_look_12 hM gX6_look_X6_isOutside rfl sg_X6_isOutside rfl (Nat.le_of_ble_eq_true rfl) ⟨⟨rfl, rfl⟩, by decide, by decide⟩ ⟨Nat.le_refl 0, Nat.le_refl 0⟩ [] [0, 1, 2, 3, 4, 5, 6, 7, 8, 9, 10, 11, 12, 13, 14, 15, 16, 17, 18, 19, 20, 21, 22, 23] rfl rfl rfl rfl (by decide) 0 0 ⟨rfl, rfl⟩ 15 rfl (fun v w1 hq12 => ?_)
    obtain ⟨r12, rfl, rfl, hb12, h⟩ := hq12
    refine k_perm C [0, 1, 2, 3, 4, 5, 6, 7, 8, 9, 10, 11, 12, 13, 14, 15, 16, 17, 18, 19, 20, 21, 22, 23] [.int (iI r12)] ((wdX cI cJ cZ qh qn qr qs qp qi qj qw qo ) ++ (wdW cI cJ cZ qn S_n T_n U_n) ++ (wdW cI cJ cZ qr S_r T_r U_r) ++ (wdG cI cJ cZ qs G_s) ++ (wdR cI cJ cZ qw R_w)) rfl rfl rfl ?_
    obtain ⟨ht, hf⟩ := h
    refine k_if_eq C dX6_look_15 (by rcases hb12 with rfl | rfl <;> decide) 21 18 (by decide) rfl (fun hc15 => ?_) (fun hc15 => ?_)
    · have h := ht hc15; clear ht hf
      refine k_aload_n C dX6_look_21 0 rfl rfl 22 rfl ?_
      refine k_iload_n C dX6_look_22 1 rfl rfl 23 rfl ?_
      have hM := c_X6_findRows (l := l) (D := D) (cI := cI) (cJ := cJ) (cZ := cZ) qh qn qr qs qp qi qj qw qo S_n T_n U_n S_r T_r U_r G_s R_w x1 _ h
      refine k_callV C dX6_look_23 hM gX6_look_X6_findRows rfl sg_X6_findRows 6 rfl rfl rfl (Nat.le_of_ble_eq_true rfl) ⟨⟨rfl, rfl⟩, by decide, by decide⟩ ⟨Nat.le_refl 0, Nat.le_refl 0⟩ [0, 1, 2, 3, 4, 5, 6, 7, 8, 9, 10, 11, 12, 13, 14, 15, 16, 17, 18, 19, 20, 21, 22, 23] [] rfl rfl rfl rfl (by decide) 0 0 ⟨rfl, rfl⟩ 26 rfl (fun v w1 hq23 => ?_)
      obtain ⟨S_r_23, T_r_23, U_r_23, R_w_23, rfl, rfl, h⟩ := hq23
      refine k_perm C [0, 1, 2, 3, 4, 5, 6, 7, 8, 9, 10, 11, 12, 13, 14, 15, 16, 17, 18, 19, 20, 21, 22, 23] [] ((wdX cI cJ cZ qh qn qr qs qp qi qj qw qo ) ++ (wdW cI cJ cZ qn S_n T_n U_n) ++ (wdW cI cJ cZ qr S_r_23 T_r_23 U_r_23) ++ (wdG cI cJ cZ qs G_s) ++ (wdR cI cJ cZ qw R_w_23)) rfl rfl rfl ?_
      refine k_aload_n C dX6_look_26 0 rfl rfl 27 rfl ?_
      refine k_get C dX6_look_27 0 rfl (ci := 6) rfl hin_X6_look_6 6 (by decide) (List.mem_of_getElem? (i := 1) rfl) rfl 30 rfl ?_
      refine k_getN C dX6_look_30 22 rfl (ci := 3) rfl hin_X6_look_3 0 (by decide) (List.mem_of_getElem? (i := 23) rfl) rfl 33 rfl ?_
      obtain ⟨hr33a, h⟩ := h
      obtain ⟨ht, hf⟩ := h
      refine k_if_ne C dX6_look_33 hr33a 39 36 (by decide) rfl (fun hc33 => ?_) (fun hc33 => ?_)
      · have h := ht hc33; clear ht hf
        refine k_bipush C dX6_look_39 (by decide) 41 rfl ?_
        refine k_istore_n C dX6_look_41 rfl (by decide) [(3, .int (iI (-6))), (0, .ref (qh 0)), (1, .int (iI x1)), (2, .int (iI x2))] rfl 42 rfl ?_
        refine k_bipush C dX6_look_42 (by decide) 44 rfl ?_
        refine k_istore C dX6_look_44 (by decide) [(4, .int (iI (-6))), (3, .int (iI (-6))), (0, .ref (qh 0)), (1, .int (iI x1)), (2, .int (iI x2))] rfl 46 rfl ?_
        refine k_aload_n C dX6_look_46 2 rfl rfl 47 rfl ?_
        refine k_get C dX6_look_47 0 rfl (ci := 6) rfl hin_X6_look_6 0 (by decide) (List.mem_of_getElem? (i := 2) rfl) rfl 50 rfl ?_
        refine k_getN C dX6_look_50 1 rfl (ci := 5) rfl hin_X6_look_5 0 (by decide) (List.mem_of_getElem? (i := 1) rfl) rfl 53 rfl ?_
        refine k_istore C dX6_look_53 (by decide) [(5, .int (iI S_n.1)), (4, .int (iI (-6))), (3, .int (iI (-6))), (0, .ref (qh 0)), (1, .int (iI x1)), (2, .int (iI x2))] rfl 55 rfl ?_
        refine k_iconst C dX6_look_55 56 rfl ?_
        refine k_istore C dX6_look_56 (by decide) [(6, .int (iI 0)), (5, .int (iI S_n.1)), (4, .int (iI (-6))), (3, .int (iI (-6))), (0, .ref (qh 0)), (1, .int (iI x1)), (2, .int (iI x2))] rfl 58 rfl ?_
        refine k_lv C [4, 6, 3, 2, 1, 0] [(0, .ref (qh 0)), (2, .int (iI x2)), (3, .int (iI (-6))), (4, .int (iI (-6))), (5, .int (iI S_n.1)), (6, .int (iI 0))] rfl ?_
        obtain ⟨m58, h⟩ := h
        refine w_X6_look_58 C m58 x2 (-6) (-6) S_n.1 0 S_r_23 T_r_23 U_r_23 R_w_23 h (fun x2 x3 x4 S_r T_r U_r R_w h => ?_)
        · refine k_iload_n C dX6_look_114 0 rfl rfl 115 rfl ?_
          obtain ⟨hr115a, h⟩ := h
          obtain ⟨ht, hf⟩ := h
          refine k_if_ne C dX6_look_115 hr115a 122 118 (by decide) rfl (fun hc115 => ?_) (fun hc115 => ?_)
          · have h := ht hc115; clear ht hf
            refine k_iload C dX6_look_122 2 rfl 124 rfl ?_
            exact k_iret C dX6_look_124 ⟨x4, S_r, T_r, U_r, R_w, rfl, rfl, h⟩
          · have h := hf hc115; clear ht hf
            refine k_iload_n C dX6_look_118 1 rfl rfl 119 rfl ?_
            refine k_goto C dX6_look_119 124 (by decide) ?_
            exact k_iret C dX6_look_124 ⟨x3, S_r, T_r, U_r, R_w, rfl, rfl, h⟩
      · have h := hf hc33; clear ht hf
        refine k_bipush C dX6_look_36 (by decide) 38 rfl ?_
        exact k_iret C dX6_look_38 ⟨(-6), S_r_23, T_r_23, U_r_23, R_w_23, rfl, rfl, h⟩
    · have h := hf hc15; clear ht hf
      refine k_bipush C dX6_look_18 (by decide) 20 rfl ?_
      exact k_iret C dX6_look_20 ⟨(-2), S_r, T_r, U_r, R_w, rfl, rfl, h⟩

/-! X6_weak -/
abbrev rm_X6_weak : Room := { frames := 3, cells := 0, slots := 0, locals := 108 }
theorem sg_X6_weak : yX6_weak.cls ≠ "java/lang/invoke/MethodHandle" ∧ yX6_weak.cls ≠ "java/lang/invoke/VarHandle" ∧ (parseMethodDescriptor yX6_weak.desc).map (fun d => d.parameters.length) = some 3 := by decide +kernel
theorem hin_X6_weak_5 : ∀ w ∈ wsX50, w ∈ wsX6_weak := fun _ h => List.mem_cons_of_mem _ (List.mem_append_right _ h)
theorem hin_X6_weak_6 : ∀ w ∈ wsX60, w ∈ wsX6_weak := fun _ h => List.mem_cons_of_mem _ (List.mem_append_left _ (List.mem_append_right _ h))
def rp_X6_weak (cI cJ cZ : ClassId) (qh : Nat → Nat) (qn : Nat → Nat) (qr : Nat → Nat) (qs : Nat → Nat) (qp : Nat → Nat) (qi : Nat → Nat) (qj : Nat → Nat) (qw : Nat → Nat) (qo : Nat → Nat) (S_n : gWS) (T_n : gWT) (Q : Int → gWU → Prop) : Option Value → va_W → Prop := fun v w1 => ∃ (r : Int) (U_n : gWU), v = some (.long (lL r)) ∧ w1 = (wdX cI cJ cZ qh qn qr qs qp qi qj qw qo ) ++ (wdW cI cJ cZ qn S_n T_n U_n) ∧ Q r U_n
def wp_X6_weak_51 (S_n : gWS) (T_n : gWT) (K_132 : Int → Int → Int → Int → Int → Int → gWU → Prop)  (Q : Int → gWU → Prop) : Nat → Int → Int → Int → Int → Int → Int → Int → gWU → Prop
  | 0, _, _, _, _, _, _, _, _ => False
  | n51 + 1, x1, x2, x3, x4, x6, x8, x9, U_n =>
    rI x9 ∧ ((10 ≤ x9 → K_132 x1 x2 x3 x4 x6 x8 U_n) ∧ (¬ (10 ≤ x9) → wp_X5_isLaid T_n x9 (fun (r64 : Int) => ((r64 = 0 → wp_X6_weak_51 S_n T_n K_132 Q n51 x1 x2 x3 x4 x6 x8 (x9 + 1) U_n) ∧ (¬ (r64 = 0) → wp_X6_at_ 10 U_n x9 (fun (r79 : Int) => wp_X6_at 10 S_n.2.2.2.2 x9 (fun (r91 : Int) => rI r91 ∧ rI (r91.tdiv 2) ∧ rL r79 ∧ rL ((r91.tdiv 2) * 10077696) ∧ ((r79 ≤ ((r91.tdiv 2) * 10077696) → wp_X6_weak_51 S_n T_n K_132 Q n51 x1 x2 x3 x4 x6 x8 (x9 + 1) U_n) ∧ (¬ (r79 ≤ ((r91.tdiv 2) * 10077696)) → rI (10 - x1) ∧ wp_X6_weak_51 S_n T_n K_132 Q n51 x1 x2 x3 (x4 * (10 - x1)) (x6 * 10) (x8 + 1) (x9 + 1) U_n)))))))))
def wp_X6_weak (S_n : gWS) (T_n : gWT) (U_n : gWU) (x1 : Int) (x2 : Int) (x3 : Int) (Q : Int → gWU → Prop) : Prop :=
    wp_X6_isOutside x1 0 10 (fun (r4 : Int) => ((¬ r4 = 0 → Q (-1000000000000000002) U_n) ∧ (¬ (¬ r4 = 0) → wp_X6_isOutside x2 0 1 (fun (r13 : Int) => ((¬ r13 = 0 → Q (-1000000000000000002) U_n) ∧ (¬ (¬ r13 = 0) → wp_X6_isOutside x3 0 1 (fun (r22 : Int) => ((r22 = 0 → wp_X5_weigh S_n T_n U_n (fun (U_n_36 : gWU) => ∃ m51, wp_X6_weak_51 S_n T_n (fun (x1 : Int) (x2 : Int) (x3 : Int) (x4 : Int) (x6 : Int) (x8 : Int) (U_n : gWU) => rI x2 ∧ ((¬ x2 = 0 → rI (x8 * x1) ∧ wp_X6_inLowestTerms (x8 * x1) 10 x3 (fun (r156 : Int) => Q r156 U_n)) ∧ (¬ (¬ x2 = 0) → wp_X6_inLowestTerms x4 x6 x3 (fun (r141 : Int) => Q r141 U_n)))) Q m51 x1 x2 x3 1 1 0 0 U_n_36)) ∧ (¬ (r22 = 0) → Q (-1000000000000000002) U_n)))))))))
set_option maxHeartbeats 4000000 in
set_option maxRecDepth 20000 in
theorem w_X6_weak_51 {l : Launch} {D : va_G} {cI cJ cZ : ClassId} {A : Nat → Prop} {K : KT} {qh : Nat → Nat} {qn : Nat → Nat} {qr : Nat → Nat} {qs : Nat → Nat} {qp : Nat → Nat} {qi : Nat → Nat} {qj : Nat → Nat} {qw : Nat → Nat} {qo : Nat → Nat} {S_n : gWS} {T_n : gWT} {Q : Int → gWU → Prop} {K_132 : Int → Int → Int → Int → Int → Int → gWU → Prop} (C : KC cX6_weak yX6_weak.cls wsX6_weak rm_X6_weak 10 D (kT cI cJ cZ) A l false (rp_X6_weak cI cJ cZ qh qn qr qs qp qi qj qw qo S_n T_n Q) 0 0 K) : ∀ (n : Nat) (x1 : Int) (x2 : Int) (x3 : Int) (x4 : Int) (x6 : Int) (x8 : Int) (x9 : Int) (U_n : gWU), wp_X6_weak_51 S_n T_n K_132 Q n x1 x2 x3 x4 x6 x8 x9 U_n → (∀ (x1 : Int) (x2 : Int) (x3 : Int) (x4 : Int) (x6 : Int) (x8 : Int) (U_n : gWU), K_132 x1 x2 x3 x4 x6 x8 U_n → K 0 0 132 [(1, .int (iI x1)), (2, .int (iI x2)), (3, .int (iI x3)), (4, .long (lL x4)), (6, .long (lL x6)), (8, .int (iI x8))] [] ((wdX cI cJ cZ qh qn qr qs qp qi qj qw qo ) ++ (wdW cI cJ cZ qn S_n T_n U_n))) → K 0 0 51 [(0, .ref (qh 0)), (1, .int (iI x1)), (2, .int (iI x2)), (3, .int (iI x3)), (4, .long (lL x4)), (6, .long (lL x6)), (8, .int (iI x8)), (9, .int (iI x9))] [] ((wdX cI cJ cZ qh qn qr qs qp qi qj qw qo ) ++ (wdW cI cJ cZ qn S_n T_n U_n)) := by
  intro n
  induction n with
  | zero => intro x1 x2 x3 x4 x6 x8 x9 U_n h; exact h.elim
  | succ n ih =>
    intro x1 x2 x3 x4 x6 x8 x9 U_n h hK_132
    refine k_iload C dX6_weak_51 7 rfl 53 rfl ?_
    refine k_bipush C dX6_weak_53 (by decide) 55 rfl ?_
    obtain ⟨hr55a, h⟩ := h
    obtain ⟨ht, hf⟩ := h
    refine k_icmp_ge C dX6_weak_55 ⟨hr55a, (by decide)⟩ 132 58 (by decide) rfl (fun hc55 => ?_) (fun hc55 => ?_)
    · have h := ht hc55; clear ht hf
      refine k_lv C [1, 2, 3, 4, 5, 6] [(1, .int (iI x1)), (2, .int (iI x2)), (3, .int (iI x3)), (4, .long (lL x4)), (6, .long (lL x6)), (8, .int (iI x8))] rfl ?_
      exact hK_132 x1 x2 x3 x4 x6 x8 U_n h
    · have h := hf hc55; clear ht hf
      refine k_aload_n C dX6_weak_58 0 rfl rfl 59 rfl ?_
      refine k_get C dX6_weak_59 0 rfl (ci := 6) rfl hin_X6_weak_6 0 (by decide) (List.mem_of_getElem? (i := 2) rfl) rfl 62 rfl ?_
      refine k_iload C dX6_weak_62 7 rfl 64 rfl ?_
      have hM := c_X5_isLaid (l := l) (D := D) (cI := cI) (cJ := cJ) (cZ := cZ) qn S_n T_n U_n x9 _ h
      refine k_callV C dX6_weak_64 hM gX6_weak_X5_isLaid rfl sg_X5_isLaid 5 rfl rfl rfl (Nat.le_of_ble_eq_true rfl) ⟨⟨rfl, rfl⟩, by decide, by decide⟩ ⟨Nat.le_refl 0, Nat.le_refl 0⟩ [1, 2, 3, 4, 5, 6, 7, 8, 9] [0] rfl rfl rfl rfl (by decide) 0 0 ⟨rfl, rfl⟩ 67 rfl (fun v w1 hq64 => ?_)
      obtain ⟨r64, rfl, rfl, hb64, h⟩ := hq64
      refine k_perm C [0, 1, 2, 3, 4, 5, 6, 7, 8, 9] [.int (iI r64)] ((wdX cI cJ cZ qh qn qr qs qp qi qj qw qo ) ++ (wdW cI cJ cZ qn S_n T_n U_n)) rfl rfl rfl ?_
      obtain ⟨ht, hf⟩ := h
      refine k_if_eq C dX6_weak_67 (by rcases hb64 with rfl | rfl <;> decide) 126 70 (by decide) rfl (fun hc67 => ?_) (fun hc67 => ?_)
      · have h := ht hc67; clear ht hf
        refine k_iinc (j := 7) C dX6_weak_126 rfl (by decide) [(9, .int (iI (x9 + 1))), (0, .ref (qh 0)), (1, .int (iI x1)), (2, .int (iI x2)), (3, .int (iI x3)), (4, .long (lL x4)), (6, .long (lL x6)), (8, .int (iI x8))] rfl 129 rfl ?_
        refine k_goto C dX6_weak_129 51 (by decide) ?_
        refine k_lv C [1, 2, 3, 4, 5, 6, 7, 0] [(0, .ref (qh 0)), (1, .int (iI x1)), (2, .int (iI x2)), (3, .int (iI x3)), (4, .long (lL x4)), (6, .long (lL x6)), (8, .int (iI x8)), (9, .int (iI (x9 + 1)))] rfl ?_
        exact ih x1 x2 x3 x4 x6 x8 (x9 + 1) U_n h hK_132
      · have h := hf hc67; clear ht hf
        refine k_aload_n C dX6_weak_70 0 rfl rfl 71 rfl ?_
        refine k_get C dX6_weak_71 0 rfl (ci := 6) rfl hin_X6_weak_6 0 (by decide) (List.mem_of_getElem? (i := 2) rfl) rfl 74 rfl ?_
        refine k_getN C dX6_weak_74 1 rfl (ci := 5) rfl hin_X6_weak_5 10 (by decide) (List.mem_of_getElem? (i := 11) rfl) rfl 77 rfl ?_
        refine k_iload C dX6_weak_77 7 rfl 79 rfl ?_
        have hM := c_X6_at_ (l := l) (D := D) (cI := cI) (cJ := cJ) (cZ := cZ) (qn 8) 10 (by decide) U_n x9 _ h
        refine k_callS C dX6_weak_79 hM gX6_weak_X6_at_ rfl sg_X6_at_ rfl (Nat.le_of_ble_eq_true rfl) ⟨⟨rfl, rfl⟩, by decide, by decide⟩ ⟨Nat.le_refl 0, Nat.le_refl 0⟩ [9] [0, 1, 2, 3, 4, 5, 6, 7, 8] rfl rfl rfl rfl (by decide) 0 0 ⟨rfl, rfl⟩ 82 rfl (fun v w1 hq79 => ?_)
        obtain ⟨r79, rfl, rfl, h⟩ := hq79
        refine k_perm C [0, 1, 2, 3, 4, 5, 6, 7, 8, 9] [.long (lL r79)] ((wdX cI cJ cZ qh qn qr qs qp qi qj qw qo ) ++ (wdW cI cJ cZ qn S_n T_n U_n)) rfl rfl rfl ?_
        refine k_aload_n C dX6_weak_82 0 rfl rfl 83 rfl ?_
        refine k_get C dX6_weak_83 0 rfl (ci := 6) rfl hin_X6_weak_6 0 (by decide) (List.mem_of_getElem? (i := 2) rfl) rfl 86 rfl ?_
        refine k_getN C dX6_weak_86 1 rfl (ci := 5) rfl hin_X6_weak_5 5 (by decide) (List.mem_of_getElem? (i := 6) rfl) rfl 89 rfl ?_
        refine k_iload C dX6_weak_89 7 rfl 91 rfl ?_
        have hM := c_X6_at (l := l) (D := D) (cI := cI) (cJ := cJ) (cZ := cZ) (qn 3) 10 (by decide) S_n.2.2.2.2 x9 _ h
        refine k_callS C dX6_weak_91 hM gX6_weak_X6_at rfl sg_X6_at rfl (Nat.le_of_ble_eq_true rfl) ⟨⟨rfl, rfl⟩, by decide, by decide⟩ ⟨Nat.le_refl 0, Nat.le_refl 0⟩ [4] [0, 1, 2, 3, 5, 6, 7, 8, 9] rfl rfl rfl rfl (by decide) 0 0 ⟨rfl, rfl⟩ 94 rfl (fun v w1 hq91 => ?_)
        obtain ⟨r91, rfl, rfl, h⟩ := hq91
        refine k_perm C [0, 1, 2, 3, 9, 4, 5, 6, 7, 8] [.int (iI r91), .long (lL r79)] ((wdX cI cJ cZ qh qn qr qs qp qi qj qw qo ) ++ (wdW cI cJ cZ qn S_n T_n U_n)) rfl rfl rfl ?_
        refine k_iconst C dX6_weak_94 95 rfl ?_
        obtain ⟨hr95a, h⟩ := h
        refine k_idiv C dX6_weak_95 ⟨hr95a, (by decide), (by decide)⟩ 96 rfl ?_
        obtain ⟨hr96a, h⟩ := h
        refine k_i2l C dX6_weak_96 hr96a 97 rfl ?_
        refine k_ldc2 (v := 10077696) C dX6_weak_97 (List.mem_of_getElem? (i := 3) rfl) (by decide) 100 rfl ?_
        refine k_lmul C dX6_weak_100 101 rfl ?_
        obtain ⟨hr101a, hr101b, h⟩ := h
        obtain ⟨ht, hf⟩ := h
        refine k_lcmp_le C dX6_weak_101 dX6_weak_102 ⟨hr101a, hr101b⟩ 126 105 (by decide) rfl (fun hc101 => ?_) (fun hc101 => ?_)
        · have h := ht hc101; clear ht hf
          refine k_iinc (j := 7) C dX6_weak_126 rfl (by decide) [(9, .int (iI (x9 + 1))), (0, .ref (qh 0)), (1, .int (iI x1)), (2, .int (iI x2)), (3, .int (iI x3)), (4, .long (lL x4)), (6, .long (lL x6)), (8, .int (iI x8))] rfl 129 rfl ?_
          refine k_goto C dX6_weak_129 51 (by decide) ?_
          refine k_lv C [1, 2, 3, 4, 5, 6, 7, 0] [(0, .ref (qh 0)), (1, .int (iI x1)), (2, .int (iI x2)), (3, .int (iI x3)), (4, .long (lL x4)), (6, .long (lL x6)), (8, .int (iI x8)), (9, .int (iI (x9 + 1)))] rfl ?_
          exact ih x1 x2 x3 x4 x6 x8 (x9 + 1) U_n h hK_132
        · have h := hf hc101; clear ht hf
          refine k_lload C dX6_weak_105 4 rfl 107 rfl ?_
          refine k_bipush C dX6_weak_107 (by decide) 109 rfl ?_
          refine k_iload_n C dX6_weak_109 1 rfl rfl 110 rfl ?_
          refine k_isub C dX6_weak_110 111 rfl ?_
          obtain ⟨hr111a, h⟩ := h
          refine k_i2l C dX6_weak_111 hr111a 112 rfl ?_
          refine k_lmul C dX6_weak_112 113 rfl ?_
          refine k_lstore C dX6_weak_113 (by decide) [(4, .long (lL (x4 * (10 - x1)))), (0, .ref (qh 0)), (1, .int (iI x1)), (2, .int (iI x2)), (3, .int (iI x3)), (6, .long (lL x6)), (8, .int (iI x8)), (9, .int (iI x9))] rfl 115 rfl ?_
          refine k_lload C dX6_weak_115 5 rfl 117 rfl ?_
          refine k_ldc2 (v := 10) C dX6_weak_117 (List.mem_of_getElem? (i := 4) rfl) (by decide) 120 rfl ?_
          refine k_lmul C dX6_weak_120 121 rfl ?_
          refine k_lstore C dX6_weak_121 (by decide) [(6, .long (lL (x6 * 10))), (4, .long (lL (x4 * (10 - x1)))), (0, .ref (qh 0)), (1, .int (iI x1)), (2, .int (iI x2)), (3, .int (iI x3)), (8, .int (iI x8)), (9, .int (iI x9))] rfl 123 rfl ?_
          refine k_iinc (j := 6) C dX6_weak_123 rfl (by decide) [(8, .int (iI (x8 + 1))), (6, .long (lL (x6 * 10))), (4, .long (lL (x4 * (10 - x1)))), (0, .ref (qh 0)), (1, .int (iI x1)), (2, .int (iI x2)), (3, .int (iI x3)), (9, .int (iI x9))] rfl 126 rfl ?_
          refine k_iinc (j := 7) C dX6_weak_126 rfl (by decide) [(9, .int (iI (x9 + 1))), (8, .int (iI (x8 + 1))), (6, .long (lL (x6 * 10))), (4, .long (lL (x4 * (10 - x1)))), (0, .ref (qh 0)), (1, .int (iI x1)), (2, .int (iI x2)), (3, .int (iI x3))] rfl 129 rfl ?_
          refine k_goto C dX6_weak_129 51 (by decide) ?_
          refine k_lv C [4, 5, 6, 7, 3, 2, 1, 0] [(0, .ref (qh 0)), (1, .int (iI x1)), (2, .int (iI x2)), (3, .int (iI x3)), (4, .long (lL (x4 * (10 - x1)))), (6, .long (lL (x6 * 10))), (8, .int (iI (x8 + 1))), (9, .int (iI (x9 + 1)))] rfl ?_
          exact ih x1 x2 x3 (x4 * (10 - x1)) (x6 * 10) (x8 + 1) (x9 + 1) U_n h hK_132
set_option maxHeartbeats 4000000 in
set_option maxRecDepth 20000 in
theorem c_X6_weak {l : Launch} {D : va_G} {cI cJ cZ : ClassId} (qh : Nat → Nat) (qn : Nat → Nat) (qr : Nat → Nat) (qs : Nat → Nat) (qp : Nat → Nat) (qi : Nat → Nat) (qj : Nat → Nat) (qw : Nat → Nat) (qo : Nat → Nat) (S_n : gWS) (T_n : gWT) (U_n : gWU) (x1 : Int) (x2 : Int) (x3 : Int) (Q : Int → gWU → Prop) (h : wp_X6_weak S_n T_n U_n x1 x2 x3 Q) : KM l D (kT cI cJ cZ) 0 0 yX6_weak wsX6_weak rm_X6_weak [.ref (qh 0), .int (iI x1), .int (iI x2), .int (iI x3)] ((wdX cI cJ cZ qh qn qr qs qp qi qj qw qo ) ++ (wdW cI cJ cZ qn S_n T_n U_n)) (rp_X6_weak cI cJ cZ qh qn qr qs qp qi qj qw qo S_n T_n Q) := by
  refine KM_intro (lv := [(0, .ref (qh 0)), (1, .int (iI x1)), (2, .int (iI x2)), (3, .int (iI x3))]) false rfl (by decide) (Nat.le_of_ble_eq_true rfl) rfl (fun h => absurd h (by decide)) (fun v ws hq => by obtain ⟨r, U_n, rfl, rfl, _⟩ := hq; exact Or.inr (Or.inr (Or.inr ⟨rfl, _, rfl⟩))) (fun A K C => ?_)
  refine k_iload_n C dX6_weak_0 1 rfl rfl 1 rfl ?_
  refine k_iconst C dX6_weak_1 2 rfl ?_
  refine k_bipush C dX6_weak_2 (by decide) 4 rfl ?_
  have hM := c_X6_isOutside (l := l) (D := D) (cI := cI) (cJ := cJ) (cZ := cZ) x1 0 10 _ h
  refine k_callS C dX6_weak_4 hM gX6_weak_X6_isOutside rfl sg_X6_isOutside rfl (Nat.le_of_ble_eq_true rfl) ⟨⟨rfl, rfl⟩, by decide, by decide⟩ ⟨Nat.le_refl 0, Nat.le_refl 0⟩ [] [0, 1, 2, 3, 4, 5, 6, 7, 8, 9] rfl rfl rfl rfl (by decide) 0 0 ⟨rfl, rfl⟩ 7 rfl (fun v w1 hq4 => ?_)
  obtain ⟨r4, rfl, rfl, hb4, h⟩ := hq4
  refine k_perm C [0, 1, 2, 3, 4, 5, 6, 7, 8, 9] [.int (iI r4)] ((wdX cI cJ cZ qh qn qr qs qp qi qj qw qo ) ++ (wdW cI cJ cZ qn S_n T_n U_n)) rfl rfl rfl ?_
  obtain ⟨ht, hf⟩ := h
  refine k_if_ne C dX6_weak_7 (by rcases hb4 with rfl | rfl <;> decide) 28 10 (by decide) rfl (fun hc7 => ?_) (fun hc7 => ?_)
  · have h := ht hc7; clear ht hf
    refine k_ldc2 (v := (-1000000000000000002)) C dX6_weak_28 (List.mem_of_getElem? (i := 1) rfl) (by decide) 31 rfl ?_
    exact k_lret C dX6_weak_31 ⟨(-1000000000000000002), U_n, rfl, rfl, h⟩
  · have h := hf hc7; clear ht hf
    refine k_iload_n C dX6_weak_10 2 rfl rfl 11 rfl ?_
    refine k_iconst C dX6_weak_11 12 rfl ?_
    refine k_iconst C dX6_weak_12 13 rfl ?_
    have hM := c_X6_isOutside (l := l) (D := D) (cI := cI) (cJ := cJ) (cZ := cZ) x2 0 1 _ h
    refine k_callS C dX6_weak_13 hM gX6_weak_X6_isOutside rfl sg_X6_isOutside rfl (Nat.le_of_ble_eq_true rfl) ⟨⟨rfl, rfl⟩, by decide, by decide⟩ ⟨Nat.le_refl 0, Nat.le_refl 0⟩ [] [0, 1, 2, 3, 4, 5, 6, 7, 8, 9] rfl rfl rfl rfl (by decide) 0 0 ⟨rfl, rfl⟩ 16 rfl (fun v w1 hq13 => ?_)
    obtain ⟨r13, rfl, rfl, hb13, h⟩ := hq13
    refine k_perm C [0, 1, 2, 3, 4, 5, 6, 7, 8, 9] [.int (iI r13)] ((wdX cI cJ cZ qh qn qr qs qp qi qj qw qo ) ++ (wdW cI cJ cZ qn S_n T_n U_n)) rfl rfl rfl ?_
    obtain ⟨ht, hf⟩ := h
    refine k_if_ne C dX6_weak_16 (by rcases hb13 with rfl | rfl <;> decide) 28 19 (by decide) rfl (fun hc16 => ?_) (fun hc16 => ?_)
    · have h := ht hc16; clear ht hf
      refine k_ldc2 (v := (-1000000000000000002)) C dX6_weak_28 (List.mem_of_getElem? (i := 1) rfl) (by decide) 31 rfl ?_
      exact k_lret C dX6_weak_31 ⟨(-1000000000000000002), U_n, rfl, rfl, h⟩
    · have h := hf hc16; clear ht hf
      refine k_iload_n C dX6_weak_19 3 rfl rfl 20 rfl ?_
      refine k_iconst C dX6_weak_20 21 rfl ?_
      refine k_iconst C dX6_weak_21 22 rfl ?_
      have hM := c_X6_isOutside (l := l) (D := D) (cI := cI) (cJ := cJ) (cZ := cZ) x3 0 1 _ h
      refine k_callS C dX6_weak_22 hM gX6_weak_X6_isOutside rfl sg_X6_isOutside rfl (Nat.le_of_ble_eq_true rfl) ⟨⟨rfl, rfl⟩, by decide, by decide⟩ ⟨Nat.le_refl 0, Nat.le_refl 0⟩ [] [0, 1, 2, 3, 4, 5, 6, 7, 8, 9] rfl rfl rfl rfl (by decide) 0 0 ⟨rfl, rfl⟩ 25 rfl (fun v w1 hq22 => ?_)
      obtain ⟨r22, rfl, rfl, hb22, h⟩ := hq22
      refine k_perm C [0, 1, 2, 3, 4, 5, 6, 7, 8, 9] [.int (iI r22)] ((wdX cI cJ cZ qh qn qr qs qp qi qj qw qo ) ++ (wdW cI cJ cZ qn S_n T_n U_n)) rfl rfl rfl ?_
      obtain ⟨ht, hf⟩ := h
      refine k_if_eq C dX6_weak_25 (by rcases hb22 with rfl | rfl <;> decide) 32 28 (by decide) rfl (fun hc25 => ?_) (fun hc25 => ?_)
      · have h := ht hc25; clear ht hf
        refine k_aload_n C dX6_weak_32 0 rfl rfl 33 rfl ?_
        refine k_get C dX6_weak_33 0 rfl (ci := 6) rfl hin_X6_weak_6 0 (by decide) (List.mem_of_getElem? (i := 2) rfl) rfl 36 rfl ?_
        have hM := c_X5_weigh (l := l) (D := D) (cI := cI) (cJ := cJ) (cZ := cZ) qn S_n T_n U_n _ h
        refine k_callV C dX6_weak_36 hM gX6_weak_X5_weigh rfl sg_X5_weigh 5 rfl rfl rfl (Nat.le_of_ble_eq_true rfl) ⟨⟨rfl, rfl⟩, by decide, by decide⟩ ⟨Nat.le_refl 0, Nat.le_refl 0⟩ [1, 2, 3, 4, 5, 6, 7, 8, 9] [0] rfl rfl rfl rfl (by decide) 0 0 ⟨rfl, rfl⟩ 39 rfl (fun v w1 hq36 => ?_)
        obtain ⟨U_n_36, rfl, rfl, h⟩ := hq36
        refine k_perm C [0, 1, 2, 3, 4, 5, 6, 7, 8, 9] [] ((wdX cI cJ cZ qh qn qr qs qp qi qj qw qo ) ++ (wdW cI cJ cZ qn S_n T_n U_n_36)) rfl rfl rfl ?_
        refine k_lconst (v := 1) C dX6_weak_39 (by decide) 40 rfl ?_
        refine k_lstore C dX6_weak_40 (by decide) [(4, .long (lL 1)), (0, .ref (qh 0)), (1, .int (iI x1)), (2, .int (iI x2)), (3, .int (iI x3))] rfl 42 rfl ?_
        refine k_lconst (v := 1) C dX6_weak_42 (by decide) 43 rfl ?_
        refine k_lstore C dX6_weak_43 (by decide) [(6, .long (lL 1)), (4, .long (lL 1)), (0, .ref (qh 0)), (1, .int (iI x1)), (2, .int (iI x2)), (3, .int (iI x3))] rfl 45 rfl ?_
        refine k_iconst C dX6_weak_45 46 rfl ?_
        refine k_istore C dX6_weak_46 (by decide) [(8, .int (iI 0)), (6, .long (lL 1)), (4, .long (lL 1)), (0, .ref (qh 0)), (1, .int (iI x1)), (2, .int (iI x2)), (3, .int (iI x3))] rfl 48 rfl ?_
        refine k_iconst C dX6_weak_48 49 rfl ?_
        refine k_istore C dX6_weak_49 (by decide) [(9, .int (iI 0)), (8, .int (iI 0)), (6, .long (lL 1)), (4, .long (lL 1)), (0, .ref (qh 0)), (1, .int (iI x1)), (2, .int (iI x2)), (3, .int (iI x3))] rfl 51 rfl ?_
        refine k_lv C [4, 5, 6, 7, 3, 2, 1, 0] [(0, .ref (qh 0)), (1, .int (iI x1)), (2, .int (iI x2)), (3, .int (iI x3)), (4, .long (lL 1)), (6, .long (lL 1)), (8, .int (iI 0)), (9, .int (iI 0))] rfl ?_
        obtain ⟨m51, h⟩ := h
        refine w_X6_weak_51 C m51 x1 x2 x3 1 1 0 0 U_n_36 h (fun x1 x2 x3 x4 x6 x8 U_n h => ?_)
        · refine k_iload_n C dX6_weak_132 1 rfl rfl 133 rfl ?_
          obtain ⟨hr133a, h⟩ := h
          obtain ⟨ht, hf⟩ := h
          refine k_if_ne C dX6_weak_133 hr133a 147 136 (by decide) rfl (fun hc133 => ?_) (fun hc133 => ?_)
          · have h := ht hc133; clear ht hf
            refine k_iload C dX6_weak_147 5 rfl 149 rfl ?_
            refine k_iload_n C dX6_weak_149 0 rfl rfl 150 rfl ?_
            refine k_imul C dX6_weak_150 151 rfl ?_
            obtain ⟨hr151a, h⟩ := h
            refine k_i2l C dX6_weak_151 hr151a 152 rfl ?_
            refine k_ldc2 (v := 10) C dX6_weak_152 (List.mem_of_getElem? (i := 4) rfl) (by decide) 155 rfl ?_
            refine k_iload_n C dX6_weak_155 2 rfl rfl 156 rfl ?_
            have hM := c_X6_inLowestTerms (l := l) (D := D) (cI := cI) (cJ := cJ) (cZ := cZ) (x8 * x1) 10 x3 _ h
            refine k_callS C dX6_weak_156 hM gX6_weak_X6_inLowestTerms rfl sg_X6_inLowestTerms rfl (Nat.le_of_ble_eq_true rfl) ⟨⟨rfl, rfl⟩, by decide, by decide⟩ ⟨Nat.le_refl 0, Nat.le_refl 0⟩ [] [0, 1, 2, 3, 4, 5, 6, 7, 8, 9] rfl rfl rfl rfl (by decide) 0 0 ⟨rfl, rfl⟩ 159 rfl (fun v w1 hq156 => ?_)
            obtain ⟨r156, rfl, rfl, h⟩ := hq156
            refine k_perm C [0, 1, 2, 3, 4, 5, 6, 7, 8, 9] [.long (lL r156)] ((wdX cI cJ cZ qh qn qr qs qp qi qj qw qo ) ++ (wdW cI cJ cZ qn S_n T_n U_n)) rfl rfl rfl ?_
            exact k_lret C dX6_weak_159 ⟨r156, U_n, rfl, rfl, h⟩
          · have h := hf hc133; clear ht hf
            refine k_lload C dX6_weak_136 3 rfl 138 rfl ?_
            refine k_lload C dX6_weak_138 4 rfl 140 rfl ?_
            refine k_iload_n C dX6_weak_140 2 rfl rfl 141 rfl ?_
            have hM := c_X6_inLowestTerms (l := l) (D := D) (cI := cI) (cJ := cJ) (cZ := cZ) x4 x6 x3 _ h
            refine k_callS C dX6_weak_141 hM gX6_weak_X6_inLowestTerms rfl sg_X6_inLowestTerms rfl (Nat.le_of_ble_eq_true rfl) ⟨⟨rfl, rfl⟩, by decide, by decide⟩ ⟨Nat.le_refl 0, Nat.le_refl 0⟩ [] [0, 1, 2, 3, 4, 5, 6, 7, 8, 9] rfl rfl rfl rfl (by decide) 0 0 ⟨rfl, rfl⟩ 144 rfl (fun v w1 hq141 => ?_)
            obtain ⟨r141, rfl, rfl, h⟩ := hq141
            refine k_perm C [0, 1, 2, 3, 4, 5, 6, 7, 8, 9] [.long (lL r141)] ((wdX cI cJ cZ qh qn qr qs qp qi qj qw qo ) ++ (wdW cI cJ cZ qn S_n T_n U_n)) rfl rfl rfl ?_
            refine k_goto C dX6_weak_144 159 (by decide) ?_
            exact k_lret C dX6_weak_159 ⟨r141, U_n, rfl, rfl, h⟩
      · have h := hf hc25; clear ht hf
        refine k_ldc2 (v := (-1000000000000000002)) C dX6_weak_28 (List.mem_of_getElem? (i := 1) rfl) (by decide) 31 rfl ?_
        exact k_lret C dX6_weak_31 ⟨(-1000000000000000002), U_n, rfl, rfl, h⟩
