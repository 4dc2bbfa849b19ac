/-! X6_wall -/
abbrev rm_X6_wall : Room := { frames := 2, cells := 0, slots := 0, locals := 43 }
theorem sg_X6_wall : yX6_wall.cls ≠ "java/lang/invoke/MethodHandle" ∧ yX6_wall.cls ≠ "java/lang/invoke/VarHandle" ∧ (parseMethodDescriptor yX6_wall.desc).map (fun d => d.parameters.length) = some 1 := by decide +kernel
theorem hin_X6_wall_4 : ∀ w ∈ wsX40, w ∈ wsX6_wall := fun _ h => List.mem_cons_of_mem _ (List.mem_append_right _ h)
theorem hin_X6_wall_5 : ∀ w ∈ wsX50, w ∈ wsX6_wall := fun _ h => List.mem_cons_of_mem _ (List.mem_append_left _ (List.mem_append_right _ h))
theorem hin_X6_wall_6 : ∀ w ∈ wsX60, w ∈ wsX6_wall := fun _ h => List.mem_cons_of_mem _ (List.mem_append_left _ (List.mem_append_left _ (List.mem_append_right _ h)))
def rp_X6_wall (cI cJ cZ : ClassId) (qh : Nat → Nat) (qn : Nat → Nat) (qr : Nat → Nat) (qs : Nat → Nat) (qp : Nat → Nat) (qi : Nat → Nat) (qj : Nat → Nat) (qw : Nat → Nat) (qo : Nat → Nat) (U_n : gWU) (Q : Int → gWS → gWT → gGG → Prop) : Option Value → va_W → Prop := fun v w1 => ∃ (r : Int) (S_n : gWS) (T_n : gWT) (G_s : gGG), v = some (.int (iI r)) ∧ w1 = (wdX cI cJ cZ qh qn qr qs qp qi qj qw qo ) ++ (wdW cI cJ cZ qn S_n T_n U_n) ++ (wdG cI cJ cZ qs G_s) ∧ Q r S_n T_n G_s
def wp_X6_wall (S_n : gWS) (T_n : gWT) (G_s : gGG) (x1 : Int) (Q : Int → gWS → gWT → gGG → Prop) : Prop :=
    wp_X6_isOutside x1 2 9 (fun (r4 : Int) => ((r4 = 0 → wp_X5_empty S_n T_n x1 (fun (S_n_26 : gWS) (T_n_26 : gWT) => Q S_n.1 S_n_26 T_n_26 (0, G_s.2.1, G_s.2.2))) ∧ (¬ (r4 = 0) → Q (-2) S_n T_n G_s)))

set_option maxHeartbeats 4000000 in
set_option maxRecDepth 20000 in
theorem c_X6_wall {l : Launch} {D : va_G} {cI cJ cZ : ClassId} (qh : Nat → Nat) (qn : Nat → Nat) (qr : Nat → Nat) (qs : Nat → Nat) (qp : Nat → Nat) (qi : Nat → Nat) (qj : Nat → Nat) (qw : Nat → Nat) (qo : Nat → Nat) (S_n : gWS) (T_n : gWT) (U_n : gWU) (G_s : gGG) (x1 : Int) (Q : Int → gWS → gWT → gGG → Prop) (h : wp_X6_wall S_n T_n G_s x1 Q) : KM l D (kT cI cJ cZ) 0 0 yX6_wall wsX6_wall rm_X6_wall [.ref (qh 0), .int (iI x1)] ((wdX cI cJ cZ qh qn qr qs qp qi qj qw qo ) ++ (wdW cI cJ cZ qn S_n T_n U_n) ++ (wdG cI cJ cZ qs G_s)) (rp_X6_wall cI cJ cZ qh qn qr qs qp qi qj qw qo U_n Q) := by
  refine KM_intro (lv := [(0, .ref (qh 0)), (1, .int (iI x1))]) false rfl (by decide) (Nat.le_of_ble_eq_true rfl) rfl (fun h => absurd h (by decide)) (fun v ws hq => by obtain ⟨r, S_n, T_n, G_s, rfl, rfl, _⟩ := hq; exact Or.inr (Or.inl ⟨rfl, _, rfl⟩)) (fun A K C => ?_)
  refine k_iload_n C dX6_wall_0 1 rfl rfl 1 rfl ?_
  refine k_iconst C dX6_wall_1 2 rfl ?_
  refine k_bipush C dX6_wall_2 (by decide) 4 rfl ?_
  have hM := c_X6_isOutside (l := l) (D := D) (cI := cI) (cJ := cJ) (cZ := cZ) x1 2 9 _ h
  refine k_callS C dX6_wall_4 hM gX6_wall_X6_isOutside rfl sg_X6_isOutside rfl (Nat.le_of_ble_eq_true rfl) ⟨⟨rfl, rfl⟩, by decide, by decide⟩ ⟨Nat.le_refl 0, Nat.le_refl 0⟩ [] [0, 1, 2, 3, 4, 5, 6, 7, 8, 9, 10, 11, 12] rfl rfl rfl rfl (by decide) 0 0 ⟨rfl, rfl⟩ 7 rfl (fun v w1 hq4 => ?_)
  obtain ⟨r4, rfl, rfl, hb4, h⟩ := hq4
  refine k_perm C [0, 1, 2, 3, 4, 5, 6, 7, 8, 9, 10, 11, 12] [.int (iI r4)] ((wdX cI cJ cZ qh qn qr qs qp qi qj qw qo ) ++ (wdW cI cJ cZ qn S_n T_n U_n) ++ (wdG cI cJ cZ qs G_s)) rfl rfl rfl ?_
  obtain ⟨ht, hf⟩ := h
  refine k_if_eq C dX6_wall_7 (by rcases hb4 with rfl | rfl <;> decide) 13 10 (by decide) rfl (fun hc7 => ?_) (fun hc7 => ?_)
  · have h := ht hc7; clear ht hf
    refine k_aload_n C dX6_wall_13 0 rfl rfl 14 rfl ?_
    refine k_get C dX6_wall_14 0 rfl (ci := 6) rfl hin_X6_wall_6 0 (by decide) (List.mem_of_getElem? (i := 1) rfl) rfl 17 rfl ?_
    refine k_getN C dX6_wall_17 1 rfl (ci := 5) rfl hin_X6_wall_5 0 (by decide) (List.mem_of_getElem? (i := 1) rfl) rfl 20 rfl ?_
    refine k_istore_n C dX6_wall_20 rfl (by decide) [(2, .int (iI S_n.1)), (0, .ref (qh 0)), (1, .int (iI x1))] rfl 21 rfl ?_
    refine k_aload_n C dX6_wall_21 1 rfl rfl 22 rfl ?_
    refine k_get C dX6_wall_22 0 rfl (ci := 6) rfl hin_X6_wall_6 0 (by decide) (List.mem_of_getElem? (i := 1) rfl) rfl 25 rfl ?_
    refine k_iload_n C dX6_wall_25 2 rfl rfl 26 rfl ?_
    have hM := c_X5_empty (l := l) (D := D) (cI := cI) (cJ := cJ) (cZ := cZ) qn S_n T_n U_n x1 _ h
    refine k_callV C dX6_wall_26 hM gX6_wall_X5_empty rfl sg_X5_empty 5 rfl rfl rfl (Nat.le_of_ble_eq_true rfl) ⟨⟨rfl, rfl⟩, by decide, by decide⟩ ⟨Nat.le_refl 0, Nat.le_refl 0⟩ [1, 2, 3, 4, 5, 6, 7, 8, 9] [0, 10, 11, 12] rfl rfl rfl rfl (by decide) 0 0 ⟨rfl, rfl⟩ 29 rfl (fun v w1 hq26 => ?_)
    obtain ⟨S_n_26, T_n_26, rfl, rfl, h⟩ := hq26
    refine k_perm C [0, 4, 5, 6, 7, 8, 9, 10, 11, 12, 1, 2, 3] [] ((wdX cI cJ cZ qh qn qr qs qp qi qj qw qo ) ++ (wdW cI cJ cZ qn S_n_26 T_n_26 U_n) ++ (wdG cI cJ cZ qs G_s)) rfl rfl rfl ?_
    refine k_aload_n C dX6_wall_29 1 rfl rfl 30 rfl ?_
    refine k_get C dX6_wall_30 0 rfl (ci := 6) rfl hin_X6_wall_6 2 (by decide) (List.mem_of_getElem? (i := 2) rfl) rfl 33 rfl ?_
    refine k_iconst C dX6_wall_33 34 rfl ?_
    refine k_putN C dX6_wall_34 10 rfl (ci := 4) rfl hin_X6_wall_4 tyX4_ok nmX4 0 (by decide) (List.mem_of_getElem? (i := 13) rfl) rfl rfl rfl (Nat.le_of_ble_eq_true rfl) ((wdX cI cJ cZ qh qn qr qs qp qi qj qw qo ) ++ (wdW cI cJ cZ qn S_n_26 T_n_26 U_n) ++ (wdG cI cJ cZ qs (0, G_s.2.1, G_s.2.2))) rfl 37 rfl ?_
    refine k_iload_n C dX6_wall_37 0 rfl rfl 38 rfl ?_
    exact k_iret C dX6_wall_38 ⟨S_n.1, S_n_26, T_n_26, (0, G_s.2.1, G_s.2.2), rfl, rfl, h⟩
  · have h := hf hc7; clear ht hf
    refine k_bipush C dX6_wall_10 (by decide) 12 rfl ?_
    exact k_iret C dX6_wall_12 ⟨(-2), S_n, T_n, G_s, rfl, rfl, h⟩

/-! X6_guest -/
abbrev rm_X6_guest : Room := { frames := 2, cells := 0, slots := 0, locals := 46 }
theorem sg_X6_guest : yX6_guest.cls ≠ "java/lang/invoke/MethodHandle" ∧ yX6_guest.cls ≠ "java/lang/invoke/VarHandle" ∧ (parseMethodDescriptor yX6_guest.desc).map (fun d => d.parameters.length) = some 4 := by decide +kernel
theorem hin_X6_guest_5 : ∀ w ∈ wsX50, w ∈ wsX6_guest := fun _ h => List.mem_cons_of_mem _ (List.mem_append_right _ h)
theorem hin_X6_guest_6 : ∀ w ∈ wsX60, w ∈ wsX6_guest := fun _ h => List.mem_cons_of_mem _ (List.mem_append_left _ (List.mem_append_right _ h))
def rp_X6_guest (cI cJ cZ : ClassId) (qh : Nat → Nat) (qn : Nat → Nat) (qr : Nat → Nat) (qs : Nat → Nat) (qp : Nat → Nat) (qi : Nat → Nat) (qj : Nat → Nat) (qw : Nat → Nat) (qo : Nat → Nat) (T_n : gWT) (U_n : gWU) (Q : Int → gWS → Prop) : Option Value → va_W → Prop := fun v w1 => ∃ (r : Int) (S_n : gWS), v = some (.int (iI r)) ∧ w1 = (wdX cI cJ cZ qh qn qr qs qp qi qj qw qo ) ++ (wdW cI cJ cZ qn S_n T_n U_n) ∧ Q r S_n
def wp_X6_guest (S_n : gWS) (T_n : gWT) (x1 : Int) (x2 : Int) (x3 : Int) (x4 : Int) (Q : Int → gWS → Prop) : Prop :=
    wp_X6_isNoGuest x1 (fun (r1 : Int) => ((r1 = 0 → wp_X6_isOutside x2 1 3 (fun (r12 : Int) => ((¬ r12 = 0 → Q (-2) S_n) ∧ (¬ (¬ r12 = 0) → wp_X6_isOutside x3 1 20 (fun (r22 : Int) => ((¬ r22 = 0 → Q (-2) S_n) ∧ (¬ (¬ r22 = 0) → wp_X6_isOutside x4 0 200 (fun (r34 : Int) => ((r34 = 0 → wp_X5_isLaid T_n x1 (fun (r48 : Int) => ((r48 = 0 → wp_X5_give S_n x1 x2 x3 x4 (fun (S_n_66 : gWS) => wp_J6_bitCount_0f7a4 S_n_66.2.1 (fun (r76 : Int) => Q r76 S_n_66))) ∧ (¬ (r48 = 0) → Q (-3) S_n)))) ∧ (¬ (r34 = 0) → Q (-2) S_n)))))))))) ∧ (¬ (r1 = 0) → Q (-1) S_n)))

set_option maxHeartbeats 4000000 in
set_option maxRecDepth 20000 in
theorem c_X6_guest {l : Launch} {D : va_G} {cI cJ cZ : ClassId} (qh : Nat → Nat) (qn : Nat → Nat) (qr : Nat → Nat) (qs : Nat → Nat) (qp : Nat → Nat) (qi : Nat → Nat) (qj : Nat → Nat) (qw : Nat → Nat) (qo : Nat → Nat) (S_n : gWS) (T_n : gWT) (U_n : gWU) (x1 : Int) (x2 : Int) (x3 : Int) (x4 : Int) (Q : Int → gWS → Prop) (h : wp_X6_guest S_n T_n x1 x2 x3 x4 Q) : KM l D (kT cI cJ cZ) 0 0 yX6_guest wsX6_guest rm_X6_guest [.ref (qh 0), .int (iI x1), .int (iI x2), .int (iI x3), .int (iI x4)] ((wdX cI cJ cZ qh qn qr qs qp qi qj qw qo ) ++ (wdW cI cJ cZ qn S_n T_n U_n)) (rp_X6_guest cI cJ cZ qh qn qr qs qp qi qj qw qo T_n U_n Q) := by
  refine KM_intro (lv := [(0, .ref (qh 0)), (1, .int (iI x1)), (2, .int (iI x2)), (3, .int (iI x3)), (4, .int (iI x4))]) false rfl (by decide) (Nat.le_of_ble_eq_true rfl) rfl (fun h => absurd h (by decide)) (fun v ws hq => by obtain ⟨r, S_n, rfl, rfl, _⟩ := hq; exact Or.inr (Or.inl ⟨rfl, _, rfl⟩)) (fun A K C => ?_)
  refine k_iload_n C dX6_guest_0 1 rfl rfl 1 rfl ?_
  have hM := c_X6_isNoGuest (l := l) (D := D) (cI := cI) (cJ := cJ) (cZ := cZ) x1 _ h
  refine k_callS C dX6_guest_1 hM gX6_guest_X6_isNoGuest rfl sg_X6_isNoGuest rfl (Nat.le_of_ble_eq_true rfl) ⟨⟨rfl, rfl⟩, by decide, by decide⟩ ⟨Nat.le_refl 0, Nat.le_refl 0⟩ [] [0, 1, 2, 3, 4, 5, 6, 7, 8, 9] rfl rfl rfl rfl (by decide) 0 0 ⟨rfl, rfl⟩ 4 rfl (fun v w1 hq1 => ?_)
  obtain ⟨r1, rfl, rfl, hb1, h⟩ := hq1
  refine k_perm C [0, 1, 2, 3, 4, 5, 6, 7, 8, 9] [.int (iI r1)] ((wdX cI cJ cZ qh qn qr qs qp qi qj qw qo ) ++ (wdW cI cJ cZ qn S_n T_n U_n)) rfl rfl rfl ?_
  obtain ⟨ht, hf⟩ := h
  refine k_if_eq C dX6_guest_4 (by rcases hb1 with rfl | rfl <;> decide) 9 7 (by decide) rfl (fun hc4 => ?_) (fun hc4 => ?_)
  · have h := ht hc4; clear ht hf
    refine k_iload_n C dX6_guest_9 2 rfl rfl 10 rfl ?_
    refine k_iconst C dX6_guest_10 11 rfl ?_
    refine k_iconst C dX6_guest_11 12 rfl ?_
    have hM := c_X6_isOutside (l := l) (D := D) (cI := cI) (cJ := cJ) (cZ := cZ) x2 1 3 _ h
    refine k_callS C dX6_guest_12 hM gX6_guest_X6_isOutside rfl sg_X6_isOutside rfl (Nat.le_of_ble_eq_true rfl) ⟨⟨rfl, rfl⟩, by decide, by decide⟩ ⟨Nat.le_refl 0, Nat.le_refl 0⟩ [] [0, 1, 2, 3, 4, 5, 6, 7, 8, 9] rfl rfl rfl rfl (by decide) 0 0 ⟨rfl, rfl⟩ 15 rfl (fun v w1 hq12 => ?_)
    obtain ⟨r12, rfl, rfl, hb12, h⟩ := hq12
    refine k_perm C [0, 1, 2, 3, 4, 5, 6, 7, 8, 9] [.int (iI r12)] ((wdX cI cJ cZ qh qn qr qs qp qi qj qw qo ) ++ (wdW cI cJ cZ qn S_n T_n U_n)) rfl rfl rfl ?_
    obtain ⟨ht, hf⟩ := h
    refine k_if_ne C dX6_guest_15 (by rcases hb12 with rfl | rfl <;> decide) 40 18 (by decide) rfl (fun hc15 => ?_) (fun hc15 => ?_)
    · have h := ht hc15; clear ht hf
      refine k_bipush C dX6_guest_40 (by decide) 42 rfl ?_
      exact k_iret C dX6_guest_42 ⟨(-2), S_n, rfl, rfl, h⟩
    · have h := hf hc15; clear ht hf
      refine k_iload_n C dX6_guest_18 3 rfl rfl 19 rfl ?_
      refine k_iconst C dX6_guest_19 20 rfl ?_
      refine k_bipush C dX6_guest_20 (by decide) 22 rfl ?_
      have hM := c_X6_isOutside (l := l) (D := D) (cI := cI) (cJ := cJ) (cZ := cZ) x3 1 20 _ h
      refine k_callS C dX6_guest_22 hM gX6_guest_X6_isOutside rfl sg_X6_isOutside rfl (Nat.le_of_ble_eq_true rfl) ⟨⟨rfl, rfl⟩, by decide, by decide⟩ ⟨Nat.le_refl 0, Nat.le_refl 0⟩ [] [0, 1, 2, 3, 4, 5, 6, 7, 8, 9] rfl rfl rfl rfl (by decide) 0 0 ⟨rfl, rfl⟩ 25 rfl (fun v w1 hq22 => ?_)
      obtain ⟨r22, rfl, rfl, hb22, h⟩ := hq22
      refine k_perm C [0, 1, 2, 3, 4, 5, 6, 7, 8, 9] [.int (iI r22)] ((wdX cI cJ cZ qh qn qr qs qp qi qj qw qo ) ++ (wdW cI cJ cZ qn S_n T_n U_n)) rfl rfl rfl ?_
      obtain ⟨ht, hf⟩ := h
      refine k_if_ne C dX6_guest_25 (by rcases hb22 with rfl | rfl <;> decide) 40 28 (by decide) rfl (fun hc25 => ?_) (fun hc25 => ?_)
      · have h := ht hc25; clear ht hf
        refine k_bipush C dX6_guest_40 (by decide) 42 rfl ?_
        exact k_iret C dX6_guest_42 ⟨(-2), S_n, rfl, rfl, h⟩
      · have h := hf hc25; clear ht hf
        refine k_iload C dX6_guest_28 4 rfl 30 rfl ?_
        refine k_iconst C dX6_guest_30 31 rfl ?_
        refine k_sipush C dX6_guest_31 (by decide) 34 rfl ?_
        have hM := c_X6_isOutside (l := l) (D := D) (cI := cI) (cJ := cJ) (cZ := cZ) x4 0 200 _ h
        refine k_callS C dX6_guest_34 hM gX6_guest_X6_isOutside rfl sg_X6_isOutside rfl (Nat.le_of_ble_eq_true rfl) ⟨⟨rfl, rfl⟩, by decide, by decide⟩ ⟨Nat.le_refl 0, Nat.le_refl 0⟩ [] [0, 1, 2, 3, 4, 5, 6, 7, 8, 9] rfl rfl rfl rfl (by decide) 0 0 ⟨rfl, rfl⟩ 37 rfl (fun v w1 hq34 => ?_)
        obtain ⟨r34, rfl, rfl, hb34, h⟩ := hq34
        refine k_perm C [0, 1, 2, 3, 4, 5, 6, 7, 8, 9] [.int (iI r34)] ((wdX cI cJ cZ qh qn qr qs qp qi qj qw qo ) ++ (wdW cI cJ cZ qn S_n T_n U_n)) rfl rfl rfl ?_
        obtain ⟨ht, hf⟩ := h
        refine k_if_eq C dX6_guest_37 (by rcases hb34 with rfl | rfl <;> decide) 43 40 (by decide) rfl (fun hc37 => ?_) (fun hc37 => ?_)
        · have h := ht hc37; clear ht hf
          refine k_aload_n C dX6_guest_43 0 rfl rfl 44 rfl ?_
          refine k_get C dX6_guest_44 0 rfl (ci := 6) rfl hin_X6_guest_6 0 (by decide) (List.mem_of_getElem? (i := 1) rfl) rfl 47 rfl ?_
          refine k_iload_n C dX6_guest_47 1 rfl rfl 48 rfl ?_
          have hM := c_X5_isLaid (l := l) (D := D) (cI := cI) (cJ := cJ) (cZ := cZ) qn S_n T_n U_n x1 _ h
          refine k_callV C dX6_guest_48 hM gX6_guest_X5_isLaid rfl sg_X5_isLaid 5 rfl rfl rfl (Nat.le_of_ble_eq_true rfl) ⟨⟨rfl, rfl⟩, by decide, by decide⟩ ⟨Nat.le_refl 0, Nat.le_refl 0⟩ [1, 2, 3, 4, 5, 6, 7, 8, 9] [0] rfl rfl rfl rfl (by decide) 0 0 ⟨rfl, rfl⟩ 51 rfl (fun v w1 hq48 => ?_)
          obtain ⟨r48, rfl, rfl, hb48, h⟩ := hq48
          refine k_perm C [0, 1, 2, 3, 4, 5, 6, 7, 8, 9] [.int (iI r48)] ((wdX cI cJ cZ qh qn qr qs qp qi qj qw qo ) ++ (wdW cI cJ cZ qn S_n T_n U_n)) rfl rfl rfl ?_
          obtain ⟨ht, hf⟩ := h
          refine k_if_eq C dX6_guest_51 (by rcases hb48 with rfl | rfl <;> decide) 57 54 (by decide) rfl (fun hc51 => ?_) (fun hc51 => ?_)
          · have h := ht hc51; clear ht hf
            refine k_aload_n C dX6_guest_57 0 rfl rfl 58 rfl ?_
            refine k_get C dX6_guest_58 0 rfl (ci := 6) rfl hin_X6_guest_6 0 (by decide) (List.mem_of_getElem? (i := 1) rfl) rfl 61 rfl ?_
            refine k_iload_n C dX6_guest_61 1 rfl rfl 62 rfl ?_
            refine k_iload_n C dX6_guest_62 2 rfl rfl 63 rfl ?_
            refine k_iload_n C dX6_guest_63 3 rfl rfl 64 rfl ?_
            refine k_iload C dX6_guest_64 4 rfl 66 rfl ?_
            have hM := c_X5_give (l := l) (D := D) (cI := cI) (cJ := cJ) (cZ := cZ) qn S_n T_n U_n x1 x2 x3 x4 _ h
            refine k_callV C dX6_guest_66 hM gX6_guest_X5_give rfl sg_X5_give 5 rfl rfl rfl (Nat.le_of_ble_eq_true rfl) ⟨⟨rfl, rfl⟩, by decide, by decide⟩ ⟨Nat.le_refl 0, Nat.le_refl 0⟩ [1, 2, 3, 4, 5, 6, 7, 8, 9] [0] rfl rfl rfl rfl (by decide) 0 0 ⟨rfl, rfl⟩ 69 rfl (fun v w1 hq66 => ?_)
            obtain ⟨S_n_66, rfl, rfl, h⟩ := hq66
            refine k_perm C [0, 1, 2, 3, 4, 5, 6, 7, 8, 9] [] ((wdX cI cJ cZ qh qn qr qs qp qi qj qw qo ) ++ (wdW cI cJ cZ qn S_n_66 T_n U_n)) rfl rfl rfl ?_
            refine k_aload_n C dX6_guest_69 0 rfl rfl 70 rfl ?_
            refine k_get C dX6_guest_70 0 rfl (ci := 6) rfl hin_X6_guest_6 0 (by decide) (List.mem_of_getElem? (i := 1) rfl) rfl 73 rfl ?_
            refine k_getN C dX6_guest_73 1 rfl (ci := 5) rfl hin_X6_guest_5 1 (by decide) (List.mem_of_getElem? (i := 2) rfl) rfl 76 rfl ?_
            have hM := c_J6_bitCount_0f7a4 (l := l) (D := D) (cI := cI) (cJ := cJ) (cZ := cZ) S_n_66.2.1 _ h
            refine k_callS C dX6_guest_76 hM gX6_guest_J6_bitCount_0f7a4 rfl sg_J6_bitCount_0f7a4 rfl (Nat.le_of_ble_eq_true rfl) ⟨⟨rfl, rfl⟩, by decide, by decide⟩ ⟨Nat.le_refl 0, Nat.le_refl 0⟩ [] [0, 1, 2, 3, 4, 5, 6, 7, 8, 9] rfl rfl rfl rfl (by decide) 0 0 ⟨rfl, rfl⟩ 79 rfl (fun v w1 hq76 => ?_)
            obtain ⟨r76, rfl, rfl, h⟩ := hq76
            refine k_perm C [0, 1, 2, 3, 4, 5, 6, 7, 8, 9] [.int (iI r76)] ((wdX cI cJ cZ qh qn qr qs qp qi qj qw qo ) ++ (wdW cI cJ cZ qn S_n_66 T_n U_n)) rfl rfl rfl ?_
            exact k_iret C dX6_guest_79 ⟨r76, S_n_66, rfl, rfl, h⟩
          · have h := hf hc51; clear ht hf
            refine k_bipush C dX6_guest_54 (by decide) 56 rfl ?_
            exact k_iret C dX6_guest_56 ⟨(-3), S_n, rfl, rfl, h⟩
        · have h := hf hc37; clear ht hf
          refine k_bipush C dX6_guest_40 (by decide) 42 rfl ?_
          exact k_iret C dX6_guest_42 ⟨(-2), S_n, rfl, rfl, h⟩
  · have h := hf hc4; clear ht hf
    refine k_iconst C dX6_guest_7 8 rfl ?_
    exact k_iret C dX6_guest_8 ⟨(-1), S_n, rfl, rfl, h⟩

/-! X6_say -/
abbrev rm_X6_say : Room := { frames := 2, cells := 0, slots := 0, locals := 43 }
theorem sg_X6_say : yX6_say.cls ≠ "java/lang/invoke/MethodHandle" ∧ yX6_say.cls ≠ "java/lang/invoke/VarHandle" ∧ (parseMethodDescriptor yX6_say.desc).map (fun d => d.parameters.length) = some 1 := by decide +kernel
theorem hin_X6_say_2 : ∀ w ∈ wsX20, w ∈ wsX6_say := fun _ h => List.mem_cons_of_mem _ (List.mem_append_right _ h)
theorem hin_X6_say_6 : ∀ w ∈ wsX60, w ∈ wsX6_say := fun _ h => List.mem_cons_of_mem _ (List.mem_append_left _ (List.mem_append_right _ h))
def rp_X6_say (cI cJ cZ : ClassId) (qh : Nat → Nat) (qn : Nat → Nat) (qr : Nat → Nat) (qs : Nat → Nat) (qp : Nat → Nat) (qi : Nat → Nat) (qj : Nat → Nat) (qw : Nat → Nat) (qo : Nat → Nat) (Q : Int → gPP → Prop) : Option Value → va_W → Prop := fun v w1 => ∃ (r : Int) (P_p : gPP), v = some (.int (iI r)) ∧ w1 = (wdX cI cJ cZ qh qn qr qs qp qi qj qw qo ) ++ (wdP cI cJ cZ qp P_p) ∧ Q r P_p
def wp_X6_say (P_p : gPP) (x1 : Int) (Q : Int → gPP → Prop) : Prop :=
    wp_X6_isOutside x1 33 126 (fun (r5 : Int) => ((r5 = 0 → rI P_p.1 ∧ ((P_p.1 < 60 → wp_X2_add P_p x1 (fun (P_p_34 : gPP) => Q P_p_34.1 P_p_34)) ∧ (¬ (P_p.1 < 60) → Q (-4) P_p))) ∧ (¬ (r5 = 0) → Q (-2) P_p)))

set_option maxHeartbeats 4000000 in
set_option maxRecDepth 20000 in
theorem c_X6_say {l : Launch} {D : va_G} {cI cJ cZ : ClassId} (qh : Nat → Nat) (qn : Nat → Nat) (qr : Nat → Nat) (qs : Nat → Nat) (qp : Nat → Nat) (qi : Nat → Nat) (qj : Nat → Nat) (qw : Nat → Nat) (qo : Nat → Nat) (P_p : gPP) (x1 : Int) (Q : Int → gPP → Prop) (h : wp_X6_say P_p x1 Q) : KM l D (kT cI cJ cZ) 0 0 yX6_say wsX6_say rm_X6_say [.ref (qh 0), .int (iI x1)] ((wdX cI cJ cZ qh qn qr qs qp qi qj qw qo ) ++ (wdP cI cJ cZ qp P_p)) (rp_X6_say cI cJ cZ qh qn qr qs qp qi qj qw qo Q) := by
  refine KM_intro (lv := [(0, .ref (qh 0)), (1, .int (iI x1))]) false rfl (by decide) (Nat.le_of_ble_eq_true rfl) rfl (fun h => absurd h (by decide)) (fun v ws hq => by obtain ⟨r, P_p, rfl, rfl, _⟩ := hq; exact Or.inr (Or.inl ⟨rfl, _, rfl⟩)) (fun A K C => ?_)
  refine k_iload_n C dX6_say_0 1 rfl rfl 1 rfl ?_
  refine k_bipush C dX6_say_1 (by decide) 3 rfl ?_
  refine k_bipush C dX6_say_3 (by decide) 5 rfl ?_
  have hM := c_X6_isOutside (l := l) (D := D) (cI := cI) (cJ := cJ) (cZ := cZ) x1 33 126 _ h
  refine k_callS C dX6_say_5 hM gX6_say_X6_isOutside rfl sg_X6_isOutside rfl (Nat.le_of_ble_eq_true rfl) ⟨⟨rfl, rfl⟩, by decide, by decide⟩ ⟨Nat.le_refl 0, Nat.le_refl 0⟩ [] [0, 1, 2] rfl rfl rfl rfl (by decide) 0 0 ⟨rfl, rfl⟩ 8 rfl (fun v w1 hq5 => ?_)
  obtain ⟨r5, rfl, rfl, hb5, h⟩ := hq5
  refine k_perm C [0, 1, 2] [.int (iI r5)] ((wdX cI cJ cZ qh qn qr qs qp qi qj qw qo ) ++ (wdP cI cJ cZ qp P_p)) rfl rfl rfl ?_
  obtain ⟨ht, hf⟩ := h
  refine k_if_eq C dX6_say_8 (by rcases hb5 with rfl | rfl <;> decide) 14 11 (by decide) rfl (fun hc8 => ?_) (fun hc8 => ?_)
  · have h := ht hc8; clear ht hf
    refine k_aload_n C dX6_say_14 0 rfl rfl 15 rfl ?_
    refine k_get C dX6_say_15 0 rfl (ci := 6) rfl hin_X6_say_6 3 (by decide) (List.mem_of_getElem? (i := 1) rfl) rfl 18 rfl ?_
    refine k_getN C dX6_say_18 1 rfl (ci := 2) rfl hin_X6_say_2 0 (by decide) (List.mem_of_getElem? (i := 15) rfl) rfl 21 rfl ?_
    refine k_bipush C dX6_say_21 (by decide) 23 rfl ?_
    obtain ⟨hr23a, h⟩ := h
    obtain ⟨ht, hf⟩ := h
    refine k_icmp_lt C dX6_say_23 ⟨hr23a, (by decide)⟩ 29 26 (by decide) rfl (fun hc23 => ?_) (fun hc23 => ?_)
    · have h := ht hc23; clear ht hf
      refine k_aload_n C dX6_say_29 0 rfl rfl 30 rfl ?_
      refine k_get C dX6_say_30 0 rfl (ci := 6) rfl hin_X6_say_6 3 (by decide) (List.mem_of_getElem? (i := 1) rfl) rfl 33 rfl ?_
      refine k_iload_n C dX6_say_33 1 rfl rfl 34 rfl ?_
      have hM := c_X2_add (l := l) (D := D) (cI := cI) (cJ := cJ) (cZ := cZ) qp P_p x1 _ h
      refine k_callV C dX6_say_34 hM gX6_say_X2_add rfl sg_X2_add 2 rfl rfl rfl (Nat.le_of_ble_eq_true rfl) ⟨⟨rfl, rfl⟩, by decide, by decide⟩ ⟨Nat.le_refl 0, Nat.le_refl 0⟩ [1, 2] [0] rfl rfl rfl rfl (by decide) 0 0 ⟨rfl, rfl⟩ 37 rfl (fun v w1 hq34 => ?_)
      obtain ⟨P_p_34, rfl, rfl, h⟩ := hq34
      refine k_perm C [0, 1, 2] [] ((wdX cI cJ cZ qh qn qr qs qp qi qj qw qo ) ++ (wdP cI cJ cZ qp P_p_34)) rfl rfl rfl ?_
      refine k_aload_n C dX6_say_37 0 rfl rfl 38 rfl ?_
      refine k_get C dX6_say_38 0 rfl (ci := 6) rfl hin_X6_say_6 3 (by decide) (List.mem_of_getElem? (i := 1) rfl) rfl 41 rfl ?_
      refine k_getN C dX6_say_41 1 rfl (ci := 2) rfl hin_X6_say_2 0 (by decide) (List.mem_of_getElem? (i := 15) rfl) rfl 44 rfl ?_
      exact k_iret C dX6_say_44 ⟨P_p_34.1, P_p_34, rfl, rfl, h⟩
    · have h := hf hc23; clear ht hf
      refine k_bipush C dX6_say_26 (by decide) 28 rfl ?_
      exact k_iret C dX6_say_28 ⟨(-4), P_p, rfl, rfl, h⟩
  · have h := hf hc8; clear ht hf
    refine k_bipush C dX6_say_11 (by decide) 13 rfl ?_
    exact k_iret C dX6_say_13 ⟨(-2), P_p, rfl, rfl, h⟩

/-! X6_wipe -/
abbrev rm_X6_wipe : Room := { frames := 0, cells := 0, slots := 0, locals := 0 }
theorem sg_X6_wipe : yX6_wipe.cls ≠ "java/lang/invoke/MethodHandle" ∧ yX6_wipe.cls ≠ "java/lang/invoke/VarHandle" ∧ (parseMethodDescriptor yX6_wipe.desc).map (fun d => d.parameters.length) = some 0 := by decide +kernel
theorem hin_X6_wipe_2 : ∀ w ∈ wsX20, w ∈ wsX6_wipe := fun _ h => List.mem_cons_of_mem _ (List.mem_append_right _ h)
theorem hin_X6_wipe_6 : ∀ w ∈ wsX60, w ∈ wsX6_wipe := fun _ h => List.mem_cons_of_mem _ (List.mem_append_left _ (List.mem_append_right _ h))
def rp_X6_wipe (cI cJ cZ : ClassId) (qh : Nat → Nat) (qn : Nat → Nat) (qr : Nat → Nat) (qs : Nat → Nat) (qp : Nat → Nat) (qi : Nat → Nat) (qj : Nat → Nat) (qw : Nat → Nat) (qo : Nat → Nat) (Q : Int → gPP → Prop) : Option Value → va_W → Prop := fun v w1 => ∃ (r : Int) (P_p : gPP), v = some (.int (iI r)) ∧ w1 = (wdX cI cJ cZ qh qn qr qs qp qi qj qw qo ) ++ (wdP cI cJ cZ qp P_p) ∧ Q r P_p
def wp_X6_wipe (P_p : gPP) (Q : Int → gPP → Prop) : Prop :=
    Q P_p.1 (0, P_p.2)

set_option maxHeartbeats 4000000 in
set_option maxRecDepth 20000 in
theorem c_X6_wipe {l : Launch} {D : va_G} {cI cJ cZ : ClassId} (qh : Nat → Nat) (qn : Nat → Nat) (qr : Nat → Nat) (qs : Nat → Nat) (qp : Nat → Nat) (qi : Nat → Nat) (qj : Nat → Nat) (qw : Nat → Nat) (qo : Nat → Nat) (P_p : gPP) (Q : Int → gPP → Prop) (h : wp_X6_wipe P_p Q) : KM l D (kT cI cJ cZ) 0 0 yX6_wipe wsX6_wipe rm_X6_wipe [.ref (qh 0)] ((wdX cI cJ cZ qh qn qr qs qp qi qj qw qo ) ++ (wdP cI cJ cZ qp P_p)) (rp_X6_wipe cI cJ cZ qh qn qr qs qp qi qj qw qo Q) := by
  refine KM_intro (lv := [(0, .ref (qh 0))]) false rfl (by decide) (Nat.le_of_ble_eq_true rfl) rfl (fun h => absurd h (by decide)) (fun v ws hq => by obtain ⟨r, P_p, rfl, rfl, _⟩ := hq; exact Or.inr (Or.inl ⟨rfl, _, rfl⟩)) (fun A K C => ?_)
  refine k_aload_n C dX6_wipe_0 0 rfl rfl 1 rfl ?_
  refine k_get C dX6_wipe_1 0 rfl (ci := 6) rfl hin_X6_wipe_6 3 (by decide) (List.mem_of_getElem? (i := 1) rfl) rfl 4 rfl ?_
  refine k_getN C dX6_wipe_4 1 rfl (ci := 2) rfl hin_X6_wipe_2 0 (by decide) (List.mem_of_getElem? (i := 15) rfl) rfl 7 rfl ?_
  refine k_istore_n C dX6_wipe_7 rfl (by decide) [(1, .int (iI P_p.1)), (0, .ref (qh 0))] rfl 8 rfl ?_
  refine k_aload_n C dX6_wipe_8 1 rfl rfl 9 rfl ?_
  refine k_get C dX6_wipe_9 0 rfl (ci := 6) rfl hin_X6_wipe_6 3 (by decide) (List.mem_of_getElem? (i := 1) rfl) rfl 12 rfl ?_
  refine k_iconst C dX6_wipe_12 13 rfl ?_
  refine k_putN C dX6_wipe_13 1 rfl (ci := 2) rfl hin_X6_wipe_2 tyX2_ok nmX2 0 (by decide) (List.mem_of_getElem? (i := 15) rfl) rfl rfl rfl (Nat.le_of_ble_eq_true rfl) ((wdX cI cJ cZ qh qn qr qs qp qi qj qw qo ) ++ (wdP cI cJ cZ qp (0, P_p.2))) rfl 16 rfl ?_
  refine k_iload_n C dX6_wipe_16 0 rfl rfl 17 rfl ?_
  exact k_iret C dX6_wipe_17 ⟨P_p.1, (0, P_p.2), rfl, rfl, h⟩

/-! X6_fault -/
abbrev rm_X6_fault : Room := { frames := 2, cells := 0, slots := 0, locals := 46 }
theorem sg_X6_fault : yX6_fault.cls ≠ "java/lang/invoke/MethodHandle" ∧ yX6_fault.cls ≠ "java/lang/invoke/VarHandle" ∧ (parseMethodDescriptor yX6_fault.desc).map (fun d => d.parameters.length) = some 0 := by decide +kernel
theorem hin_X6_fault_5 : ∀ w ∈ wsX50, w ∈ wsX6_fault := fun _ h => List.mem_cons_of_mem _ (List.mem_append_left _ (List.mem_append_right _ h))
theorem hin_X6_fault_6 : ∀ w ∈ wsX60, w ∈ wsX6_fault := fun _ h => List.mem_cons_of_mem _ (List.mem_append_left _ (List.mem_append_left _ (List.mem_append_right _ h)))
def rp_X6_fault (cI cJ cZ : ClassId) (qh : Nat → Nat) (qn : Nat → Nat) (qr : Nat → Nat) (qs : Nat → Nat) (qp : Nat → Nat) (qi : Nat → Nat) (qj : Nat → Nat) (qw : Nat → Nat) (qo : Nat → Nat) (S_n : gWS) (T_n : gWT) (U_n : gWU) (P_p : gPP) (Q : Int → Prop) : Option Value → va_W → Prop := fun v w1 => ∃ (r : Int), v = some (.int (iI r)) ∧ w1 = (wdX cI cJ cZ qh qn qr qs qp qi qj qw qo ) ++ (wdW cI cJ cZ qn S_n T_n U_n) ++ (wdP cI cJ cZ qp P_p) ∧ Q r
def wp_X6_fault (S_n : gWS) (P_p : gPP) (Q : Int → Prop) : Prop :=
    wp_X2_firstFault P_p S_n.1 (fun (r11 : Int) => Q r11)

set_option maxHeartbeats 4000000 in
set_option maxRecDepth 20000 in
theorem c_X6_fault {l : Launch} {D : va_G} {cI cJ cZ : ClassId} (qh : Nat → Nat) (qn : Nat → Nat) (qr : Nat → Nat) (qs : Nat → Nat) (qp : Nat → Nat) (qi : Nat → Nat) (qj : Nat → Nat) (qw : Nat → Nat) (qo : Nat → Nat) (S_n : gWS) (T_n : gWT) (U_n : gWU) (P_p : gPP) (Q : Int → Prop) (h : wp_X6_fault S_n P_p Q) : KM l D (kT cI cJ cZ) 0 0 yX6_fault wsX6_fault rm_X6_fault [.ref (qh 0)] ((wdX cI cJ cZ qh qn qr qs qp qi qj qw qo ) ++ (wdW cI cJ cZ qn S_n T_n U_n) ++ (wdP cI cJ cZ qp P_p)) (rp_X6_fault cI cJ cZ qh qn qr qs qp qi qj qw qo S_n T_n U_n P_p Q) := by
  refine KM_intro (lv := [(0, .ref (qh 0))]) false rfl (by decide) (Nat.le_of_ble_eq_true rfl) rfl (fun h => absurd h (by decide)) (fun v ws hq => by obtain ⟨r, rfl, rfl, _⟩ := hq; exact Or.inr (Or.inl ⟨rfl, _, rfl⟩)) (fun A K C => ?_)
  refine k_aload_n C dX6_fault_0 0 rfl rfl 1 rfl ?_
  refine k_get C dX6_fault_1 0 rfl (ci := 6) rfl hin_X6_fault_6 3 (by decide) (List.mem_of_getElem? (i := 1) rfl) rfl 4 rfl ?_
  refine k_aload_n C dX6_fault_4 0 rfl rfl 5 rfl ?_
  refine k_get C dX6_fault_5 0 rfl (ci := 6) rfl hin_X6_fault_6 0 (by decide) (List.mem_of_getElem? (i := 2) rfl) rfl 8 rfl ?_
  refine k_getN C dX6_fault_8 1 rfl (ci := 5) rfl hin_X6_fault_5 0 (by decide) (List.mem_of_getElem? (i := 1) rfl) rfl 11 rfl ?_
  have hM := c_X2_firstFault (l := l) (D := D) (cI := cI) (cJ := cJ) (cZ := cZ) qp P_p S_n.1 _ h
  refine k_callV C dX6_fault_11 hM gX6_fault_X2_firstFault rfl sg_X2_firstFault 2 rfl rfl rfl (Nat.le_of_ble_eq_true rfl) ⟨⟨rfl, rfl⟩, by decide, by decide⟩ ⟨Nat.le_refl 0, Nat.le_refl 0⟩ [10, 11] [0, 1, 2, 3, 4, 5, 6, 7, 8, 9] rfl rfl rfl rfl (by decide) 0 0 ⟨rfl, rfl⟩ 14 rfl (fun v w1 hq11 => ?_)
  obtain ⟨r11, rfl, rfl, h⟩ := hq11
  refine k_perm C [0, 1, 2, 3, 4, 5, 6, 7, 8, 9, 10, 11] [.int (iI r11)] ((wdX cI cJ cZ qh qn qr qs qp qi qj qw qo ) ++ (wdW cI cJ cZ qn S_n T_n U_n) ++ (wdP cI cJ cZ qp P_p)) rfl rfl rfl ?_
  exact k_iret C dX6_fault_14 ⟨r11, rfl, rfl, h⟩

/-! X6_tryPad -/
abbrev rm_X6_tryPad : Room := { frames := 4, cells := 0, slots := 0, locals := 132 }
theorem sg_X6_tryPad : yX6_tryPad.cls ≠ "java/lang/invoke/MethodHandle" ∧ yX6_tryPad.cls ≠ "java/lang/invoke/VarHandle" ∧ (parseMethodDescriptor yX6_tryPad.desc).map (fun d => d.parameters.length) = some 0 := by decide +kernel
theorem hin_X6_tryPad_5 : ∀ w ∈ wsX50, w ∈ wsX6_tryPad := fun _ h => List.mem_cons_of_mem _ (List.mem_append_left _ (List.mem_append_right _ h))
theorem hin_X6_tryPad_6 : ∀ w ∈ wsX60, w ∈ wsX6_tryPad := fun _ h => List.mem_cons_of_mem _ (List.mem_append_left _ (List.mem_append_left _ (List.mem_append_right _ h)))
def rp_X6_tryPad (cI cJ cZ : ClassId) (qh : Nat → Nat) (qn : Nat → Nat) (qr : Nat → Nat) (qs : Nat → Nat) (qp : Nat → Nat) (qi : Nat → Nat) (qj : Nat → Nat) (qw : Nat → Nat) (qo : Nat → Nat) (S_n : gWS) (T_n : gWT) (U_n : gWU) (P_p : gPP) (Q : Int → gWS → gWT → gWU → Prop) : Option Value → va_W → Prop := fun v w1 => ∃ (r : Int) (S_r : gWS) (T_r : gWT) (U_r : gWU), v = some (.int (iI r)) ∧ w1 = (wdX cI cJ cZ qh qn qr qs qp qi qj qw qo ) ++ (wdW cI cJ cZ qn S_n T_n U_n) ++ (wdW cI cJ cZ qr S_r T_r U_r) ++ (wdP cI cJ cZ qp P_p) ∧ Q r S_r T_r U_r
def wp_X6_tryPad_94 (K_43 : Int → Int → gWS → gWT → gWU → Prop) (K_101 : Int → Int → gWS → gWT → gWU → Prop)  (Q : Int → gWS → gWT → gWU → Prop) (x1 : Int) (x2 : Int) (s0 : Int) (S_r : gWS) (T_r : gWT) (U_r : gWU) : Prop :=
    rI s0 ∧ ((s0 = 0 → K_43 x1 (x2 + 1) S_r T_r U_r) ∧ (¬ (s0 = 0) → K_101 x2 s0 S_r T_r U_r))
def wp_X6_tryPad_43 (P_p : gPP) (K_101 : Int → Int → gWS → gWT → gWU → Prop) (K_115 : gWS → gWT → gWU → Prop)  (Q : Int → gWS → gWT → gWU → Prop) : Nat → Int → Int → gWS → gWT → gWU → Prop
  | 0, _, _, _, _, _ => False
  | n43 + 1, x1, x2, S_r, T_r, U_r =>
    rI x2 ∧ rI x1 ∧ ((x1 ≤ x2 → K_115 S_r T_r U_r) ∧ (¬ (x1 ≤ x2) → wp_X2_guestOf P_p x2 (fun (r53 : Int) => wp_X2_columnOf P_p x2 (fun (r62 : Int) => rI r62 ∧ ((¬ r62 = (-1) → wp_X5_put S_r T_r U_r r53 r62 (fun (r91 : Int) (T_r_91 : gWT) (U_r_91 : gWU) => wp_X6_tryPad_94 (fun (x1 : Int) (x2 : Int) (S_r : gWS) (T_r : gWT) (U_r : gWU) => wp_X6_tryPad_43 P_p K_101 K_115 Q n43 x1 x2 S_r T_r U_r) K_101 Q x1 x2 r91 S_r T_r_91 U_r_91)) ∧ (¬ (¬ r62 = (-1)) → wp_X5_take S_r T_r r53 (fun (r78 : Int) (T_r_78 : gWT) => wp_X6_tryPad_94 (fun (x1 : Int) (x2 : Int) (S_r : gWS) (T_r : gWT) (U_r : gWU) => wp_X6_tryPad_43 P_p K_101 K_115 Q n43 x1 x2 S_r T_r U_r) K_101 Q x1 x2 r78 S_r T_r_78 U_r)))))))
def wp_X6_tryPad (S_n : gWS) (T_n : gWT) (S_r : gWS) (T_r : gWT) (U_r : gWU) (P_p : gPP) (Q : Int → gWS → gWT → gWU → Prop) : Prop :=
    wp_X2_firstFault P_p S_n.1 (fun (r11 : Int) => rI r11 ∧ ((r11 = (-6) → wp_X5_become S_r T_r S_n T_n (fun (S_r_30 : gWS) (T_r_30 : gWT) => wp_X2_acts P_p (fun (r37 : Int) => ∃ m43, wp_X6_tryPad_43 P_p (fun (x2 : Int) (x5 : Int) (S_r : gWS) (T_r : gWT) (U_r : gWU) => Q ((10 * x2) + x5) S_r T_r U_r) (fun (S_r : gWS) (T_r : gWT) (U_r : gWU) => Q (-6) S_r T_r U_r) Q m43 r37 0 S_r_30 T_r_30 U_r))) ∧ (¬ (r11 = (-6)) → Q (-5) S_r T_r U_r)))
set_option maxHeartbeats 4000000 in
set_option maxRecDepth 20000 in
theorem w_X6_tryPad_94 {l : Launch} {D : va_G} {cI cJ cZ : ClassId} {A : Nat → Prop} {K : KT} {qh : Nat → Nat} {qn : Nat → Nat} {qr : Nat → Nat} {qs : Nat → Nat} {qp : Nat → Nat} {qi : Nat → Nat} {qj : Nat → Nat} {qw : Nat → Nat} {qo : Nat → Nat} {S_n : gWS} {T_n : gWT} {U_n : gWU} {P_p : gPP} {Q : Int → gWS → gWT → gWU → Prop} {K_43 : Int → Int → gWS → gWT → gWU → Prop} {K_101 : Int → Int → gWS → gWT → gWU → Prop} (C : KC cX6_tryPad yX6_tryPad.cls wsX6_tryPad rm_X6_tryPad 6 D (kT cI cJ cZ) A l false (rp_X6_tryPad cI cJ cZ qh qn qr qs qp qi qj qw qo S_n T_n U_n P_p Q) 0 0 K) : ∀ (x1 : Int) (x2 : Int) (s0 : Int) (S_r : gWS) (T_r : gWT) (U_r : gWU), wp_X6_tryPad_94 K_43 K_101 Q x1 x2 s0 S_r T_r U_r → (∀ (x1 : Int) (x2 : Int) (S_r : gWS) (T_r : gWT) (U_r : gWU), K_43 x1 x2 S_r T_r U_r → K 0 0 43 [(0, .ref (qh 0)), (1, .int (iI x1)), (2, .int (iI x2))] [] ((wdX cI cJ cZ qh qn qr qs qp qi qj qw qo ) ++ (wdW cI cJ cZ qn S_n T_n U_n) ++ (wdW cI cJ cZ qr S_r T_r U_r) ++ (wdP cI cJ cZ qp P_p))) → (∀ (x2 : Int) (x5 : Int) (S_r : gWS) (T_r : gWT) (U_r : gWU), K_101 x2 x5 S_r T_r U_r → K 0 0 101 [(2, .int (iI x2)), (5, .int (iI x5))] [] ((wdX cI cJ cZ qh qn qr qs qp qi qj qw qo ) ++ (wdW cI cJ cZ qn S_n T_n U_n) ++ (wdW cI cJ cZ qr S_r T_r U_r) ++ (wdP cI cJ cZ qp P_p))) → K 0 0 94 [(0, .ref (qh 0)), (1, .int (iI x1)), (2, .int (iI x2))] [.int (iI s0)] ((wdX cI cJ cZ qh qn qr qs qp qi qj qw qo ) ++ (wdW cI cJ cZ qn S_n T_n U_n) ++ (wdW cI cJ cZ qr S_r T_r U_r) ++ (wdP cI cJ cZ qp P_p)) := by
  intro x1 x2 s0 S_r T_r U_r h hK_43 hK_101
  refine k_istore C dX6_tryPad_94 (by decide) [(5, .int (iI s0)), (0, .ref (qh 0)), (1, .int (iI x1)), (2, .int (iI x2))] rfl 96 rfl ?_
  refine k_iload C dX6_tryPad_96 0 rfl 98 rfl ?_
  obtain ⟨hr98a, h⟩ := h
  obtain ⟨ht, hf⟩ := h
  refine k_if_eq C dX6_tryPad_98 hr98a 109 101 (by decide) rfl (fun hc98 => ?_) (fun hc98 => ?_)
  · have h := ht hc98; clear ht hf
    refine k_iinc (j := 3) C dX6_tryPad_109 rfl (by decide) [(2, .int (iI (x2 + 1))), (5, .int (iI s0)), (0, .ref (qh 0)), (1, .int (iI x1))] rfl 112 rfl ?_
    refine k_goto C dX6_tryPad_112 43 (by decide) ?_
    refine k_lv C [2, 3, 0] [(0, .ref (qh 0)), (1, .int (iI x1)), (2, .int (iI (x2 + 1)))] rfl ?_
    exact hK_43 x1 (x2 + 1) S_r T_r U_r h
  · have h := hf hc98; clear ht hf
    refine k_lv C [3, 0] [(2, .int (iI x2)), (5, .int (iI s0))] rfl ?_
    exact hK_101 x2 s0 S_r T_r U_r h
set_option maxHeartbeats 4000000 in
set_option maxRecDepth 20000 in
theorem w_X6_tryPad_43 {l : Launch} {D : va_G} {cI cJ cZ : ClassId} {A : Nat → Prop} {K : KT} {qh : Nat → Nat} {qn : Nat → Nat} {qr : Nat → Nat} {qs : Nat → Nat} {qp : Nat → Nat} {qi : Nat → Nat} {qj : Nat → Nat} {qw : Nat → Nat} {qo : Nat → Nat} {S_n : gWS} {T_n : gWT} {U_n : gWU} {P_p : gPP} {Q : Int → gWS → gWT → gWU → Prop} {K_101 : Int → Int → gWS → gWT → gWU → Prop} {K_115 : gWS → gWT → gWU → Prop} (C : KC cX6_tryPad yX6_tryPad.cls wsX6_tryPad rm_X6_tryPad 6 D (kT cI cJ cZ) A l false (rp_X6_tryPad cI cJ cZ qh qn qr qs qp qi qj qw qo S_n T_n U_n P_p Q) 0 0 K) : ∀ (n : Nat) (x1 : Int) (x2 : Int) (S_r : gWS) (T_r : gWT) (U_r : gWU), wp_X6_tryPad_43 P_p K_101 K_115 Q n x1 x2 S_r T_r U_r → (∀ (x2 : Int) (x5 : Int) (S_r : gWS) (T_r : gWT) (U_r : gWU), K_101 x2 x5 S_r T_r U_r → K 0 0 101 [(2, .int (iI x2)), (5, .int (iI x5))] [] ((wdX cI cJ cZ qh qn qr qs qp qi qj qw qo ) ++ (wdW cI cJ cZ qn S_n T_n U_n) ++ (wdW cI cJ cZ qr S_r T_r U_r) ++ (wdP cI cJ cZ qp P_p))) → (∀ (S_r : gWS) (T_r : gWT) (U_r : gWU), K_115 S_r T_r U_r → K 0 0 115 [] [] ((wdX cI cJ cZ qh qn qr qs qp qi qj qw qo ) ++ (wdW cI cJ cZ qn S_n T_n U_n) ++ (wdW cI cJ cZ qr S_r T_r U_r) ++ (wdP cI cJ cZ qp P_p))) → K 0 0 43 [(0, .ref (qh 0)), (1, .int (iI x1)), (2, .int (iI x2))] [] ((wdX cI cJ cZ qh qn qr qs qp qi qj qw qo ) ++ (wdW cI cJ cZ qn S_n T_n U_n) ++ (wdW cI cJ cZ qr S_r T_r U_r) ++ (wdP cI cJ cZ qp P_p)) := by
  intro n
  induction n with
  | zero => intro x1 x2 S_r T_r U_r h; exact h.elim
  | succ n ih =>
    intro x1 x2 S_r T_r U_r h hK_101 hK_115
    refine k_iload_n C dX6_tryPad_43 2 rfl rfl 44 rfl ?_
    refine k_iload_n C dX6_tryPad_44 1 rfl rfl 45 rfl ?_
    obtain ⟨hr45a, hr45b, h⟩ := h
    obtain ⟨ht, hf⟩ := h
    refine k_icmp_ge C dX6_tryPad_45 ⟨hr45a, hr45b⟩ 115 48 (by decide) rfl (fun hc45 => ?_) (fun hc45 => ?_)
    · have h := ht hc45; clear ht hf
      refine k_lv C [] [] rfl ?_
      exact hK_115 S_r T_r U_r h
    · have h := hf hc45; clear ht hf
      refine k_aload_n C dX6_tryPad_48 0 rfl rfl 49 rfl ?_
      refine k_get C dX6_tryPad_49 0 rfl (ci := 6) rfl hin_X6_tryPad_6 3 (by decide) (List.mem_of_getElem? (i := 1) rfl) rfl 52 rfl ?_
      refine k_iload_n C dX6_tryPad_52 2 rfl rfl 53 rfl ?_
      have hM := c_X2_guestOf (l := l) (D := D) (cI := cI) (cJ := cJ) (cZ := cZ) qp P_p x2 _ h
      refine k_callV C dX6_tryPad_53 hM gX6_tryPad_X2_guestOf rfl sg_X2_guestOf 2 rfl rfl rfl (Nat.le_of_ble_eq_true rfl) ⟨⟨rfl, rfl⟩, by decide, by decide⟩ ⟨Nat.le_refl 0, Nat.le_refl 0⟩ [19, 20] [0, 1, 2, 3, 4, 5, 6, 7, 8, 9, 10, 11, 12, 13, 14, 15, 16, 17, 18] rfl rfl rfl rfl (by decide) 0 0 ⟨rfl, rfl⟩ 56 rfl (fun v w1 hq53 => ?_)
      obtain ⟨r53, rfl, rfl, h⟩ := hq53
      refine k_perm C [0, 1, 2, 3, 4, 5, 6, 7, 8, 9, 10, 11, 12, 13, 14, 15, 16, 17, 18, 19, 20] [.int (iI r53)] ((wdX cI cJ cZ qh qn qr qs qp qi qj qw qo ) ++ (wdW cI cJ cZ qn S_n T_n U_n) ++ (wdW cI cJ cZ qr S_r T_r U_r) ++ (wdP cI cJ cZ qp P_p)) rfl rfl rfl ?_
      refine k_istore_n C dX6_tryPad_56 rfl (by decide) [(3, .int (iI r53)), (0, .ref (qh 0)), (1, .int (iI x1)), (2, .int (iI x2))] rfl 57 rfl ?_
      refine k_aload_n C dX6_tryPad_57 1 rfl rfl 58 rfl ?_
      refine k_get C dX6_tryPad_58 0 rfl (ci := 6) rfl hin_X6_tryPad_6 3 (by decide) (List.mem_of_getElem? (i := 1) rfl) rfl 61 rfl ?_
      refine k_iload_n C dX6_tryPad_61 3 rfl rfl 62 rfl ?_
      have hM := c_X2_columnOf (l := l) (D := D) (cI := cI) (cJ := cJ) (cZ := cZ) qp P_p x2 _ h
      refine k_callV C dX6_tryPad_62 hM gX6_tryPad_X2_columnOf rfl sg_X2_columnOf 2 rfl rfl rfl (Nat.le_of_ble_eq_true rfl) ⟨⟨rfl, rfl⟩, by decide, by decide⟩ ⟨Nat.le_refl 0, Nat.le_refl 0⟩ [19, 20] [0, 1, 2, 3, 4, 5, 6, 7, 8, 9, 10, 11, 12, 13, 14, 15, 16, 17, 18] rfl rfl rfl rfl (by decide) 0 0 ⟨rfl, rfl⟩ 65 rfl (fun v w1 hq62 => ?_)
      obtain ⟨r62, rfl, rfl, h⟩ := hq62
      refine k_perm C [0, 1, 2, 3, 4, 5, 6, 7, 8, 9, 10, 11, 12, 13, 14, 15, 16, 17, 18, 19, 20] [.int (iI r62)] ((wdX cI cJ cZ qh qn qr qs qp qi qj qw qo ) ++ (wdW cI cJ cZ qn S_n T_n U_n) ++ (wdW cI cJ cZ qr S_r T_r U_r) ++ (wdP cI cJ cZ qp P_p)) rfl rfl rfl ?_
      refine k_istore C dX6_tryPad_65 (by decide) [(4, .int (iI r62)), (3, .int (iI r53)), (0, .ref (qh 0)), (1, .int (iI x1)), (2, .int (iI x2))] rfl 67 rfl ?_
      refine k_iload C dX6_tryPad_67 0 rfl 69 rfl ?_
      refine k_iconst C dX6_tryPad_69 70 rfl ?_
      obtain ⟨hr70a, h⟩ := h
      obtain ⟨ht, hf⟩ := h
      refine k_icmp_ne C dX6_tryPad_70 ⟨hr70a, (by decide)⟩ 84 73 (by decide) rfl (fun hc70 => ?_) (fun hc70 => ?_)
      · have h := ht hc70; clear ht hf
        refine k_aload_n C dX6_tryPad_84 2 rfl rfl 85 rfl ?_
        refine k_get C dX6_tryPad_85 0 rfl (ci := 6) rfl hin_X6_tryPad_6 1 (by decide) (List.mem_of_getElem? (i := 3) rfl) rfl 88 rfl ?_
        refine k_iload_n C dX6_tryPad_88 1 rfl rfl 89 rfl ?_
        refine k_iload C dX6_tryPad_89 0 rfl 91 rfl ?_
        have hM := c_X5_put (l := l) (D := D) (cI := cI) (cJ := cJ) (cZ := cZ) qr S_r T_r U_r r53 r62 _ h
        refine k_callV C dX6_tryPad_91 hM gX6_tryPad_X5_put rfl sg_X5_put 5 rfl rfl rfl (Nat.le_of_ble_eq_true rfl) ⟨⟨rfl, rfl⟩, by decide, by decide⟩ ⟨Nat.le_refl 0, Nat.le_refl 0⟩ [10, 11, 12, 13, 14, 15, 16, 17, 18] [0, 1, 2, 3, 4, 5, 6, 7, 8, 9, 19, 20] rfl rfl rfl rfl (by decide) 0 0 ⟨rfl, rfl⟩ 94 rfl (fun v w1 hq91 => ?_)
        obtain ⟨r91, T_r_91, U_r_91, rfl, rfl, h⟩ := hq91
        refine k_perm C [0, 1, 2, 3, 4, 5, 6, 7, 8, 9, 12, 13, 14, 15, 16, 17, 18, 19, 20, 10, 11] [.int (iI r91)] ((wdX cI cJ cZ qh qn qr qs qp qi qj qw qo ) ++ (wdW cI cJ cZ qn S_n T_n U_n) ++ (wdW cI cJ cZ qr S_r T_r_91 U_r_91) ++ (wdP cI cJ cZ qp P_p)) rfl rfl rfl ?_
        refine k_lv C [2, 3, 4] [(0, .ref (qh 0)), (1, .int (iI x1)), (2, .int (iI x2))] rfl ?_
        refine w_X6_tryPad_94 C x1 x2 r91 S_r T_r_91 U_r_91 h (fun x1 x2 S_r T_r U_r h => ?_) hK_101
        · exact ih x1 x2 S_r T_r U_r h hK_101 hK_115
      · have h := hf hc70; clear ht hf
        refine k_aload_n C dX6_tryPad_73 2 rfl rfl 74 rfl ?_
        refine k_get C dX6_tryPad_74 0 rfl (ci := 6) rfl hin_X6_tryPad_6 1 (by decide) (List.mem_of_getElem? (i := 3) rfl) rfl 77 rfl ?_
        refine k_iload_n C dX6_tryPad_77 1 rfl rfl 78 rfl ?_
        have hM := c_X5_take (l := l) (D := D) (cI := cI) (cJ := cJ) (cZ := cZ) qr S_r T_r U_r r53 _ h
        refine k_callV C dX6_tryPad_78 hM gX6_tryPad_X5_take rfl sg_X5_take 5 rfl rfl rfl (Nat.le_of_ble_eq_true rfl) ⟨⟨rfl, rfl⟩, by decide, by decide⟩ ⟨Nat.le_refl 0, Nat.le_refl 0⟩ [10, 11, 12, 13, 14, 15, 16, 17, 18] [0, 1, 2, 3, 4, 5, 6, 7, 8, 9, 19, 20] rfl rfl rfl rfl (by decide) 0 0 ⟨rfl, rfl⟩ 81 rfl (fun v w1 hq78 => ?_)
        obtain ⟨r78, T_r_78, rfl, rfl, h⟩ := hq78
        refine k_perm C [0, 1, 2, 3, 4, 5, 6, 7, 8, 9, 12, 13, 14, 15, 16, 17, 18, 19, 20, 10, 11] [.int (iI r78)] ((wdX cI cJ cZ qh qn qr qs qp qi qj qw qo ) ++ (wdW cI cJ cZ qn S_n T_n U_n) ++ (wdW cI cJ cZ qr S_r T_r_78 U_r) ++ (wdP cI cJ cZ qp P_p)) rfl rfl rfl ?_
        refine k_goto C dX6_tryPad_81 94 (by decide) ?_
        refine k_lv C [2, 3, 4] [(0, .ref (qh 0)), (1, .int (iI x1)), (2, .int (iI x2))] rfl ?_
        refine w_X6_tryPad_94 C x1 x2 r78 S_r T_r_78 U_r h (fun x1 x2 S_r T_r U_r h => ?_) hK_101
        · exact ih x1 x2 S_r T_r U_r h hK_101 hK_115
set_option maxHeartbeats 4000000 in
set_option maxRecDepth 20000 in
theorem c_X6_tryPad {l : Launch} {D : va_G} {cI cJ cZ : ClassId} (qh : Nat → Nat) (qn : Nat → Nat) (qr : Nat → Nat) (qs : Nat → Nat) (qp : Nat → Nat) (qi : Nat → Nat) (qj : Nat → Nat) (qw : Nat → Nat) (qo : Nat → Nat) (S_n : gWS) (T_n : gWT) (U_n : gWU) (S_r : gWS) (T_r : gWT) (U_r : gWU) (P_p : gPP) (Q : Int → gWS → gWT → gWU → Prop) (h : wp_X6_tryPad S_n T_n S_r T_r U_r P_p Q) : KM l D (kT cI cJ cZ) 0 0 yX6_tryPad wsX6_tryPad rm_X6_tryPad [.ref (qh 0)] ((wdX cI cJ cZ qh qn qr qs qp qi qj qw qo ) ++ (wdW cI cJ cZ qn S_n T_n U_n) ++ (wdW cI cJ cZ qr S_r T_r U_r) ++ (wdP cI cJ cZ qp P_p)) (rp_X6_tryPad cI cJ cZ qh qn qr qs qp qi qj qw qo S_n T_n U_n P_p Q) := by
  refine KM_intro (lv := [(0, .ref (qh 0))]) false rfl (by decide) (Nat.le_of_ble_eq_true rfl) rfl (fun h => absurd h (by decide)) (fun v ws hq => by obtain ⟨r, S_r, T_r, U_r, rfl, rfl, _⟩ := hq; exact Or.inr (Or.inl ⟨rfl, _, rfl⟩)) (fun A K C => ?_)
  refine k_aload_n C dX6_tryPad_0 0 rfl rfl 1 rfl ?_
  refine k_get C dX6_tryPad_1 0 rfl (ci := 6) rfl hin_X6_tryPad_6 3 (by decide) (List.mem_of_getElem? (i := 1) rfl) rfl 4 rfl ?_
  refine k_aload_n C dX6_tryPad_4 0 rfl rfl 5 rfl ?_
  refine k_get C dX6_tryPad_5 0 rfl (ci := 6) rfl hin_X6_tryPad_6 0 (by decide) (List.mem_of_getElem? (i := 2) rfl) rfl 8 rfl ?_
  refine k_getN C dX6_tryPad_8 1 rfl (ci := 5) rfl hin_X6_tryPad_5 0 (by decide) (List.mem_of_getElem? (i := 1) rfl) rfl 11 rfl ?_
  have hM := c_X2_firstFault (l := l) (D := D) (cI := cI) (cJ := cJ) (cZ := cZ) qp P_p S_n.1 _ h
  refine k_callV C dX6_tryPad_11 hM gX6_tryPad_X2_firstFault rfl sg_X2_firstFault 2 rfl rfl rfl (Nat.le_of_ble_eq_true rfl) ⟨⟨rfl, rfl⟩, by decide, by decide⟩ ⟨Nat.le_refl 0, Nat.le_refl 0⟩ [19, 20] [0, 1, 2, 3, 4, 5, 6, 7, 8, 9, 10, 11, 12, 13, 14, 15, 16, 17, 18] rfl rfl rfl rfl (by decide) 0 0 ⟨rfl, rfl⟩ 14 rfl (fun v w1 hq11 => ?_)
  obtain ⟨r11, rfl, rfl, h⟩ := hq11
  refine k_perm C [0, 1, 2, 3, 4, 5, 6, 7, 8, 9, 10, 11, 12, 13, 14, 15, 16, 17, 18, 19, 20] [.int (iI r11)] ((wdX cI cJ cZ qh qn qr qs qp qi qj qw qo ) ++ (wdW cI cJ cZ qn S_n T_n U_n) ++ (wdW cI cJ cZ qr S_r T_r U_r) ++ (wdP cI cJ cZ qp P_p)) rfl rfl rfl ?_
  refine k_bipush C dX6_tryPad_14 (by decide) 16 rfl ?_
  obtain ⟨hr16a, h⟩ := h
  obtain ⟨ht, hf⟩ := h
  refine k_icmp_eq C dX6_tryPad_16 ⟨hr16a, (by decide)⟩ 22 19 (by decide) rfl (fun hc16 => ?_) (fun hc16 => ?_)
  · have h := ht hc16; clear ht hf
    refine k_aload_n C dX6_tryPad_22 0 rfl rfl 23 rfl ?_
    refine k_get C dX6_tryPad_23 0 rfl (ci := 6) rfl hin_X6_tryPad_6 1 (by decide) (List.mem_of_getElem? (i := 3) rfl) rfl 26 rfl ?_
    refine k_aload_n C dX6_tryPad_26 0 rfl rfl 27 rfl ?_
    refine k_get C dX6_tryPad_27 0 rfl (ci := 6) rfl hin_X6_tryPad_6 0 (by decide) (List.mem_of_getElem? (i := 2) rfl) rfl 30 rfl ?_
    have hM := c_X5_become (l := l) (D := D) (cI := cI) (cJ := cJ) (cZ := cZ) qr qn S_r T_r U_r S_n T_n U_n _ h
    refine k_callV C dX6_tryPad_30 hM gX6_tryPad_X5_become rfl sg_X5_become 5 rfl rfl rfl (Nat.le_of_ble_eq_true rfl) ⟨⟨rfl, rfl⟩, by decide, by decide⟩ ⟨Nat.le_refl 0, Nat.le_refl 0⟩ [10, 11, 12, 13, 14, 15, 16, 17, 18, 1, 2, 3, 4, 5, 6, 7, 8, 9] [0, 19, 20] rfl rfl rfl rfl (by decide) 0 0 ⟨rfl, rfl⟩ 33 rfl (fun v w1 hq30 => ?_)
    obtain ⟨S_r_30, T_r_30, rfl, rfl, h⟩ := hq30
    refine k_perm C [0, 12, 13, 14, 15, 16, 17, 18, 19, 20, 3, 4, 5, 6, 7, 8, 9, 10, 11, 1, 2] [] ((wdX cI cJ cZ qh qn qr qs qp qi qj qw qo ) ++ (wdW cI cJ cZ qn S_n T_n U_n) ++ (wdW cI cJ cZ qr S_r_30 T_r_30 U_r) ++ (wdP cI cJ cZ qp P_p)) rfl rfl rfl ?_
    refine k_aload_n C dX6_tryPad_33 0 rfl rfl 34 rfl ?_
    refine k_get C dX6_tryPad_34 0 rfl (ci := 6) rfl hin_X6_tryPad_6 3 (by decide) (List.mem_of_getElem? (i := 1) rfl) rfl 37 rfl ?_
    have hM := c_X2_acts (l := l) (D := D) (cI := cI) (cJ := cJ) (cZ := cZ) qp P_p _ h
    refine k_callV C dX6_tryPad_37 hM gX6_tryPad_X2_acts rfl sg_X2_acts 2 rfl rfl rfl (Nat.le_of_ble_eq_true rfl) ⟨⟨rfl, rfl⟩, by decide, by decide⟩ ⟨Nat.le_refl 0, Nat.le_refl 0⟩ [19, 20] [0, 1, 2, 3, 4, 5, 6, 7, 8, 9, 10, 11, 12, 13, 14, 15, 16, 17, 18] rfl rfl rfl rfl (by decide) 0 0 ⟨rfl, rfl⟩ 40 rfl (fun v w1 hq37 => ?_)
    obtain ⟨r37, rfl, rfl, h⟩ := hq37
    refine k_perm C [0, 1, 2, 3, 4, 5, 6, 7, 8, 9, 10, 11, 12, 13, 14, 15, 16, 17, 18, 19, 20] [.int (iI r37)] ((wdX cI cJ cZ qh qn qr qs qp qi qj qw qo ) ++ (wdW cI cJ cZ qn S_n T_n U_n) ++ (wdW cI cJ cZ qr S_r_30 T_r_30 U_r) ++ (wdP cI cJ cZ qp P_p)) rfl rfl rfl ?_
    refine k_istore_n C dX6_tryPad_40 rfl (by decide) [(1, .int (iI r37)), (0, .ref (qh 0))] rfl 41 rfl ?_
    refine k_iconst C dX6_tryPad_41 42 rfl ?_
    refine k_istore_n C dX6_tryPad_42 rfl (by decide) [(2, .int (iI 0)), (1, .int (iI r37)), (0, .ref (qh 0))] rfl 43 rfl ?_
    refine k_lv C [2, 1, 0] [(0, .ref (qh 0)), (1, .int (iI r37)), (2, .int (iI 0))] rfl ?_
    obtain ⟨m43, h⟩ := h
    refine w_X6_tryPad_43 C m43 r37 0 S_r_30 T_r_30 U_r h (fun x2 x5 S_r T_r U_r h => ?_) (fun S_r T_r U_r h => ?_)
    · refine k_bipush C dX6_tryPad_101 (by decide) 103 rfl ?_
      refine k_iload_n C dX6_tryPad_103 0 rfl rfl 104 rfl ?_
      refine k_imul C dX6_tryPad_104 105 rfl ?_
      refine k_iload C dX6_tryPad_105 1 rfl 107 rfl ?_
      refine k_iadd C dX6_tryPad_107 108 rfl ?_
      exact k_iret C dX6_tryPad_108 ⟨(10 * x2) + x5, S_r, T_r, U_r, rfl, rfl, h⟩
    · refine k_bipush C dX6_tryPad_115 (by decide) 117 rfl ?_
      exact k_iret C dX6_tryPad_117 ⟨(-6), S_r, T_r, U_r, rfl, rfl, h⟩
  · have h := hf hc16; clear ht hf
    refine k_bipush C dX6_tryPad_19 (by decide) 21 rfl ?_
    exact k_iret C dX6_tryPad_21 ⟨(-5), S_r, T_r, U_r, rfl, rfl, h⟩

/-! X6_judge -/
abbrev rm_X6_judge : Room := { frames := 5, cells := 0, slots := 0, locals := 157 }
theorem sg_X6_judge : yX6_judge.cls ≠ "java/lang/invoke/MethodHandle" ∧ yX6_judge.cls ≠ "java/lang/invoke/VarHandle" ∧ (parseMethodDescriptor yX6_judge.desc).map (fun d => d.parameters.length) = some 1 := by decide +kernel
def rp_X6_judge (cI cJ cZ : ClassId) (qh : Nat → Nat) (qn : Nat → Nat) (qr : Nat → Nat) (qs : Nat → Nat) (qp : Nat → Nat) (qi : Nat → Nat) (qj : Nat → Nat) (qw : Nat → Nat) (qo : Nat → Nat) (S_n : gWS) (T_n : gWT) (U_n : gWU) (P_p : gPP) (Q : Int → gWS → gWT → gWU → Prop) : Option Value → va_W → Prop := fun v w1 => ∃ (r : Int) (S_r : gWS) (T_r : gWT) (U_r : gWU), v = some (.int (iI r)) ∧ w1 = (wdX cI cJ cZ qh qn qr qs qp qi qj qw qo ) ++ (wdW cI cJ cZ qn S_n T_n U_n) ++ (wdW cI cJ cZ qr S_r T_r U_r) ++ (wdP cI cJ cZ qp P_p) ∧ Q r S_r T_r U_r
def wp_X6_judge (S_n : gWS) (T_n : gWT) (S_r : gWS) (T_r : gWT) (U_r : gWU) (P_p : gPP) (x1 : Int) (Q : Int → gWS → gWT → gWU → Prop) : Prop :=
    wp_X6_isOutside x1 0 1 (fun (r3 : Int) => ((r3 = 0 → wp_X6_tryPad S_n T_n S_r T_r U_r P_p (fun (r13 : Int) (S_r_13 : gWS) (T_r_13 : gWT) (U_r_13 : gWU) => rI r13 ∧ ((0 ≤ r13 → rI x1 ∧ ((¬ x1 = 0 → Q (r13.tmod 10) S_r_13 T_r_13 U_r_13) ∧ (¬ (¬ x1 = 0) → Q (r13.tdiv 10) S_r_13 T_r_13 U_r_13))) ∧ (¬ (0 ≤ r13) → Q r13 S_r_13 T_r_13 U_r_13)))) ∧ (¬ (r3 = 0) → Q (-2) S_r T_r U_r)))

set_option maxHeartbeats 4000000 in
set_option maxRecDepth 20000 in
theorem c_X6_judge {l : Launch} {D : va_G} {cI cJ cZ : ClassId} (qh : Nat → Nat) (qn : Nat → Nat) (qr : Nat → Nat) (qs : Nat → Nat) (qp : Nat → Nat) (qi : Nat → Nat) (qj : Nat → Nat) (qw : Nat → Nat) (qo : Nat → Nat) (S_n : gWS) (T_n : gWT) (U_n : gWU) (S_r : gWS) (T_r : gWT) (U_r : gWU) (P_p : gPP) (x1 : Int) (Q : Int → gWS → gWT → gWU → Prop) (h : wp_X6_judge S_n T_n S_r T_r U_r P_p x1 Q) : KM l D (kT cI cJ cZ) 0 0 yX6_judge wsX6_judge rm_X6_judge [.ref (qh 0), .int (iI x1)] ((wdX cI cJ cZ qh qn qr qs qp qi qj qw qo ) ++ (wdW cI cJ cZ qn S_n T_n U_n) ++ (wdW cI cJ cZ qr S_r T_r U_r) ++ (wdP cI cJ cZ qp P_p)) (rp_X6_judge cI cJ cZ qh qn qr qs qp qi qj qw qo S_n T_n U_n P_p Q) := by
  refine KM_intro (lv := [(0, .ref (qh 0)), (1, .int (iI x1))]) false rfl (by decide) (Nat.le_of_ble_eq_true rfl) rfl (fun h => absurd h (by decide)) (fun v ws hq => by obtain ⟨r, S_r, T_r, U_r, rfl, rfl, _⟩ := hq; exact Or.inr (Or.inl ⟨rfl, _, rfl⟩)) (fun A K C => ?_)
  refine k_iload_n C dX6_judge_0 1 rfl rfl 1 rfl ?_
  refine k_iconst C dX6_judge_1 2 rfl ?_
  refine k_iconst C dX6_judge_2 3 rfl ?_
  have hM := c_X6_isOutside (l := l) (D := D) (cI := cI) (cJ := cJ) (cZ := cZ) x1 0 1 _ h
  refine k_callS C dX6_judge_3 hM gX6_judge_X6_isOutside rfl sg_X6_isOutside rfl (Nat.le_of_ble_eq_true rfl) ⟨⟨rfl, rfl⟩, by decide, by decide⟩ ⟨Nat.le_refl 0, Nat.le_refl 0⟩ [] [0, 1, 2, 3, 4, 5, 6, 7, 8, 9, 10, 11, 12, 13, 14, 15, 16, 17, 18, 19, 20] rfl rfl rfl rfl (by decide) 0 0 ⟨rfl, rfl⟩ 6 rfl (fun v w1 hq3 => ?_)
  obtain ⟨r3, rfl, rfl, hb3, h⟩ := hq3
  refine k_perm C [0, 1, 2, 3, 4, 5, 6, 7, 8, 9, 10, 11, 12, 13, 14, 15, 16, 17, 18, 19, 20] [.int (iI r3)] ((wdX cI cJ cZ qh qn qr qs qp qi qj qw qo ) ++ (wdW cI cJ cZ qn S_n T_n U_n) ++ (wdW cI cJ cZ qr S_r T_r U_r) ++ (wdP cI cJ cZ qp P_p)) rfl rfl rfl ?_
  obtain ⟨ht, hf⟩ := h
  refine k_if_eq C dX6_judge_6 (by rcases hb3 with rfl | rfl <;> decide) 12 9 (by decide) rfl (fun hc6 => ?_) (fun hc6 => ?_)
  · have h := ht hc6; clear ht hf
    refine k_aload_n C dX6_judge_12 0 rfl rfl 13 rfl ?_
    have hM := c_X6_tryPad (l := l) (D := D) (cI := cI) (cJ := cJ) (cZ := cZ) qh qn qr qs qp qi qj qw qo S_n T_n U_n S_r T_r U_r P_p _ h
    refine k_callV C dX6_judge_13 hM gX6_judge_X6_tryPad rfl sg_X6_tryPad 6 rfl rfl rfl (Nat.le_of_ble_eq_true rfl) ⟨⟨rfl, rfl⟩, by decide, by decide⟩ ⟨Nat.le_refl 0, Nat.le_refl 0⟩ [0, 1, 2, 3, 4, 5, 6, 7, 8, 9, 10, 11, 12, 13, 14, 15, 16, 17, 18, 19, 20] [] rfl rfl rfl rfl (by decide) 0 0 ⟨rfl, rfl⟩ 16 rfl (fun v w1 hq13 => ?_)
    obtain ⟨r13, S_r_13, T_r_13, U_r_13, rfl, rfl, h⟩ := hq13
    refine k_perm C [0, 1, 2, 3, 4, 5, 6, 7, 8, 9, 10, 11, 12, 13, 14, 15, 16, 17, 18, 19, 20] [.int (iI r13)] ((wdX cI cJ cZ qh qn qr qs qp qi qj qw qo ) ++ (wdW cI cJ cZ qn S_n T_n U_n) ++ (wdW cI cJ cZ qr S_r_13 T_r_13 U_r_13) ++ (wdP cI cJ cZ qp P_p)) rfl rfl rfl ?_
    refine k_istore_n C dX6_judge_16 rfl (by decide) [(2, .int (iI r13)), (0, .ref (qh 0)), (1, .int (iI x1))] rfl 17 rfl ?_
    refine k_iload_n C dX6_judge_17 0 rfl rfl 18 rfl ?_
    obtain ⟨hr18a, h⟩ := h
    obtain ⟨ht, hf⟩ := h
    refine k_if_ge C dX6_judge_18 hr18a 23 21 (by decide) rfl (fun hc18 => ?_) (fun hc18 => ?_)
    · have h := ht hc18; clear ht hf
      refine k_iload_n C dX6_judge_23 2 rfl rfl 24 rfl ?_
      obtain ⟨hr24a, h⟩ := h
      obtain ⟨ht, hf⟩ := h
      refine k_if_ne C dX6_judge_24 hr24a 34 27 (by decide) rfl (fun hc24 => ?_) (fun hc24 => ?_)
      · have h := ht hc24; clear ht hf
        refine k_iload_n C dX6_judge_34 0 rfl rfl 35 rfl ?_
        refine k_bipush C dX6_judge_35 (by decide) 37 rfl ?_
        refine k_irem C dX6_judge_37 ⟨hr18a, (by decide), (by decide)⟩ 38 rfl ?_
        exact k_iret C dX6_judge_38 ⟨r13.tmod 10, S_r_13, T_r_13, U_r_13, rfl, rfl, h⟩
      · have h := hf hc24; clear ht hf
        refine k_iload_n C dX6_judge_27 0 rfl rfl 28 rfl ?_
        refine k_bipush C dX6_judge_28 (by decide) 30 rfl ?_
        refine k_idiv C dX6_judge_30 ⟨hr18a, (by decide), (by decide)⟩ 31 rfl ?_
        refine k_goto C dX6_judge_31 38 (by decide) ?_
        exact k_iret C dX6_judge_38 ⟨r13.tdiv 10, S_r_13, T_r_13, U_r_13, rfl, rfl, h⟩
    · have h := hf hc18; clear ht hf
      refine k_iload_n C dX6_judge_21 0 rfl rfl 22 rfl ?_
      exact k_iret C dX6_judge_22 ⟨r13, S_r_13, T_r_13, U_r_13, rfl, rfl, h⟩
  · have h := hf hc6; clear ht hf
    refine k_bipush C dX6_judge_9 (by decide) 11 rfl ?_
    exact k_iret C dX6_judge_11 ⟨(-2), S_r, T_r, U_r, rfl, rfl, h⟩

/-! X6_done -/
abbrev rm_X6_done : Room := { frames := 5, cells := 0, slots := 0, locals := 157 }
theorem sg_X6_done : yX6_done.cls ≠ "java/lang/invoke/MethodHandle" ∧ yX6_done.cls ≠ "java/lang/invoke/VarHandle" ∧ (parseMethodDescriptor yX6_done.desc).map (fun d => d.parameters.length) = some 0 := by decide +kernel
theorem hin_X6_done_2 : ∀ w ∈ wsX20, w ∈ wsX6_done := fun _ h => List.mem_cons_of_mem _ (List.mem_append_left _ (List.mem_append_right _ h))
theorem hin_X6_done_6 : ∀ w ∈ wsX60, w ∈ wsX6_done := fun _ h => List.mem_cons_of_mem _ (List.mem_append_left _ (List.mem_append_left _ (List.mem_append_right _ h)))
def rp_X6_done (cI cJ cZ : ClassId) (qh : Nat → Nat) (qn : Nat → Nat) (qr : Nat → Nat) (qs : Nat → Nat) (qp : Nat → Nat) (qi : Nat → Nat) (qj : Nat → Nat) (qw : Nat → Nat) (qo : Nat → Nat) (U_n : gWU) (Q : Int → gWS → gWT → gWS → gWT → gWU → gPP → Prop) : Option Value → va_W → Prop := fun v w1 => ∃ (r : Int) (S_n : gWS) (T_n : gWT) (S_r : gWS) (T_r : gWT) (U_r : gWU) (P_p : gPP), v = some (.int (iI r)) ∧ w1 = (wdX cI cJ cZ qh qn qr qs qp qi qj qw qo ) ++ (wdW cI cJ cZ qn S_n T_n U_n) ++ (wdW cI cJ cZ qr S_r T_r U_r) ++ (wdP cI cJ cZ qp P_p) ∧ Q r S_n T_n S_r T_r U_r P_p
def wp_X6_done (S_n : gWS) (T_n : gWT) (S_r : gWS) (T_r : gWT) (U_r : gWU) (P_p : gPP) (Q : Int → gWS → gWT → gWS → gWT → gWU → gPP → Prop) : Prop :=
    wp_X6_tryPad S_n T_n S_r T_r U_r P_p (fun (r1 : Int) (S_r_1 : gWS) (T_r_1 : gWT) (U_r_1 : gWU) => rI r1 ∧ ((r1 = (-6) → wp_X2_acts P_p (fun (r16 : Int) => wp_X5_become S_n T_n S_r_1 T_r_1 (fun (S_n_28 : gWS) (T_n_28 : gWT) => Q r16 S_n_28 T_n_28 S_r_1 T_r_1 U_r_1 (0, P_p.2)))) ∧ (¬ (r1 = (-6)) → Q (-5) S_n T_n S_r_1 T_r_1 U_r_1 P_p)))

set_option maxHeartbeats 4000000 in
set_option maxRecDepth 20000 in
theorem c_X6_done {l : Launch} {D : va_G} {cI cJ cZ : ClassId} (qh : Nat → Nat) (qn : Nat → Nat) (qr : Nat → Nat) (qs : Nat → Nat) (qp : Nat → Nat) (qi : Nat → Nat) (qj : Nat → Nat) (qw : Nat → Nat) (qo : Nat → Nat) (S_n : gWS) (T_n : gWT) (U_n : gWU) (S_r : gWS) (T_r : gWT) (U_r : gWU) (P_p : gPP) (Q : Int → gWS → gWT → gWS → gWT → gWU → gPP → Prop) (h : wp_X6_done S_n T_n S_r T_r U_r P_p Q) : KM l D (kT cI cJ cZ) 0 0 yX6_done wsX6_done rm_X6_done [.ref (qh 0)] ((wdX cI cJ cZ qh qn qr qs qp qi qj qw qo ) ++ (wdW cI cJ cZ qn S_n T_n U_n) ++ (wdW cI cJ cZ qr S_r T_r U_r) ++ (wdP cI cJ cZ qp P_p)) (rp_X6_done cI cJ cZ qh qn qr qs qp qi qj qw qo U_n Q) := by
  refine KM_intro (lv := [(0, .ref (qh 0))]) false rfl (by decide) (Nat.le_of_ble_eq_true rfl) rfl (fun h => absurd h (by decide)) (fun v ws hq => by obtain ⟨r, S_n, T_n, S_r, T_r, U_r, P_p, rfl, rfl, _⟩ := hq; exact Or.inr (Or.inl ⟨rfl, _, rfl⟩)) (fun A K C => ?_)
  refine k_aload_n C dX6_done_0 0 rfl rfl 1 rfl ?_
  have hM := c_X6_tryPad (l := l) (D := D) (cI := cI) (cJ := cJ) (cZ := cZ) qh qn qr qs qp qi qj qw qo S_n T_n U_n S_r T_r U_r P_p _ h
  refine k_callV C dX6_done_1 hM gX6_done_X6_tryPad rfl sg_X6_tryPad 6 rfl rfl rfl (Nat.le_of_ble_eq_true rfl) ⟨⟨rfl, rfl⟩, by decide, by decide⟩ ⟨Nat.le_refl 0, Nat.le_refl 0⟩ [0, 1, 2, 3, 4, 5, 6, 7, 8, 9, 10, 11, 12, 13, 14, 15, 16, 17, 18, 19, 20] [] rfl rfl rfl rfl (by decide) 0 0 ⟨rfl, rfl⟩ 4 rfl (fun v w1 hq1 => ?_)
  obtain ⟨r1, S_r_1, T_r_1, U_r_1, rfl, rfl, h⟩ := hq1
  refine k_perm C [0, 1, 2, 3, 4, 5, 6, 7, 8, 9, 10, 11, 12, 13, 14, 15, 16, 17, 18, 19, 20] [.int (iI r1)] ((wdX cI cJ cZ qh qn qr qs qp qi qj qw qo ) ++ (wdW cI cJ cZ qn S_n T_n U_n) ++ (wdW cI cJ cZ qr S_r_1 T_r_1 U_r_1) ++ (wdP cI cJ cZ qp P_p)) rfl rfl rfl ?_
  refine k_bipush C dX6_done_4 (by decide) 6 rfl ?_
  obtain ⟨hr6a, h⟩ := h
  obtain ⟨ht, hf⟩ := h
  refine k_icmp_eq C dX6_done_6 ⟨hr6a, (by decide)⟩ 12 9 (by decide) rfl (fun hc6 => ?_) (fun hc6 => ?_)
  · have h := ht hc6; clear ht hf
    refine k_aload_n C dX6_done_12 0 rfl rfl 13 rfl ?_
    refine k_get C dX6_done_13 0 rfl (ci := 6) rfl hin_X6_done_6 3 (by decide) (List.mem_of_getElem? (i := 1) rfl) rfl 16 rfl ?_
    have hM := c_X2_acts (l := l) (D := D) (cI := cI) (cJ := cJ) (cZ := cZ) qp P_p _ h
    refine k_callV C dX6_done_16 hM gX6_done_X2_acts rfl sg_X2_acts 2 rfl rfl rfl (Nat.le_of_ble_eq_true rfl) ⟨⟨rfl, rfl⟩, by decide, by decide⟩ ⟨Nat.le_refl 0, Nat.le_refl 0⟩ [19, 20] [0, 1, 2, 3, 4, 5, 6, 7, 8, 9, 10, 11, 12, 13, 14, 15, 16, 17, 18] rfl rfl rfl rfl (by decide) 0 0 ⟨rfl, rfl⟩ 19 rfl (fun v w1 hq16 => ?_)
    obtain ⟨r16, rfl, rfl, h⟩ := hq16
    refine k_perm C [0, 1, 2, 3, 4, 5, 6, 7, 8, 9, 10, 11, 12, 13, 14, 15, 16, 17, 18, 19, 20] [.int (iI r16)] ((wdX cI cJ cZ qh qn qr qs qp qi qj qw qo ) ++ (wdW cI cJ cZ qn S_n T_n U_n) ++ (wdW cI cJ cZ qr S_r_1 T_r_1 U_r_1) ++ (wdP cI cJ cZ qp P_p)) rfl rfl rfl ?_
    refine k_istore_n C dX6_done_19 rfl (by decide) [(1, .int (iI r16)), (0, .ref (qh 0))] rfl 20 rfl ?_
    refine k_aload_n C dX6_done_20 1 rfl rfl 21 rfl ?_
    refine k_get C dX6_done_21 0 rfl (ci := 6) rfl hin_X6_done_6 0 (by decide) (List.mem_of_getElem? (i := 2) rfl) rfl 24 rfl ?_
    refine k_aload_n C dX6_done_24 1 rfl rfl 25 rfl ?_
    refine k_get C dX6_done_25 0 rfl (ci := 6) rfl hin_X6_done_6 1 (by decide) (List.mem_of_getElem? (i := 3) rfl) rfl 28 rfl ?_
    have hM := c_X5_become (l := l) (D := D) (cI := cI) (cJ := cJ) (cZ := cZ) qn qr S_n T_n U_n S_r_1 T_r_1 U_r_1 _ h
    refine k_callV C dX6_done_28 hM gX6_done_X5_become rfl sg_X5_become 5 rfl rfl rfl (Nat.le_of_ble_eq_true rfl) ⟨⟨rfl, rfl⟩, by decide, by decide⟩ ⟨Nat.le_refl 0, Nat.le_refl 0⟩ [1, 2, 3, 4, 5, 6, 7, 8, 9, 10, 11, 12, 13, 14, 15, 16, 17, 18] [0, 19, 20] rfl rfl rfl rfl (by decide) 0 0 ⟨rfl, rfl⟩ 31 rfl (fun v w1 hq28 => ?_)
    obtain ⟨S_n_28, T_n_28, rfl, rfl, h⟩ := hq28
    refine k_perm C [0, 3, 4, 5, 6, 7, 8, 9, 10, 11, 12, 13, 14, 15, 16, 17, 18, 19, 20, 1, 2] [] ((wdX cI cJ cZ qh qn qr qs qp qi qj qw qo ) ++ (wdW cI cJ cZ qn S_n_28 T_n_28 U_n) ++ (wdW cI cJ cZ qr S_r_1 T_r_1 U_r_1) ++ (wdP cI cJ cZ qp P_p)) rfl rfl rfl ?_
    refine k_aload_n C dX6_done_31 1 rfl rfl 32 rfl ?_
    refine k_get C dX6_done_32 0 rfl (ci := 6) rfl hin_X6_done_6 3 (by decide) (List.mem_of_getElem? (i := 1) rfl) rfl 35 rfl ?_
    refine k_iconst C dX6_done_35 36 rfl ?_
    refine k_putN C dX6_done_36 19 rfl (ci := 2) rfl hin_X6_done_2 tyX2_ok nmX2 0 (by decide) (List.mem_of_getElem? (i := 15) rfl) rfl rfl rfl (Nat.le_of_ble_eq_true rfl) ((wdX cI cJ cZ qh qn qr qs qp qi qj qw qo ) ++ (wdW cI cJ cZ qn S_n_28 T_n_28 U_n) ++ (wdW cI cJ cZ qr S_r_1 T_r_1 U_r_1) ++ (wdP cI cJ cZ qp (0, P_p.2))) rfl 39 rfl ?_
    refine k_iload_n C dX6_done_39 0 rfl rfl 40 rfl ?_
    exact k_iret C dX6_done_40 ⟨r16, S_n_28, T_n_28, S_r_1, T_r_1, U_r_1, (0, P_p.2), rfl, rfl, h⟩
  · have h := hf hc6; clear ht hf
    refine k_bipush C dX6_done_9 (by decide) 11 rfl ?_
    exact k_iret C dX6_done_11 ⟨(-5), S_n, T_n, S_r_1, T_r_1, U_r_1, P_p, rfl, rfl, h⟩

/-! X6_state -/
abbrev rm_X6_state : Room := { frames := 3, cells := 0, slots := 0, locals := 64 }
theorem sg_X6_state : yX6_state.cls ≠ "java/lang/invoke/MethodHandle" ∧ yX6_state.cls ≠ "java/lang/invoke/VarHandle" ∧ (parseMethodDescriptor yX6_state.desc).map (fun d => d.parameters.length) = some 2 := by decide +kernel
theorem hin_X6_state_6 : ∀ w ∈ wsX60, w ∈ wsX6_state := fun _ h => List.mem_cons_of_mem _ (List.mem_append_left _ (List.mem_append_right _ h))
def rp_X6_state (cI cJ cZ : ClassId) (qh : Nat → Nat) (qn : Nat → Nat) (qr : Nat → Nat) (qs : Nat → Nat) (qp : Nat → Nat) (qi : Nat → Nat) (qj : Nat → Nat) (qw : Nat → Nat) (qo : Nat → Nat) (S_n : gWS) (T_n : gWT) (U_n : gWU) (Q : Int → Prop) : Option Value → va_W → Prop := fun v w1 => ∃ (r : Int), v = some (.int (iI r)) ∧ w1 = (wdX cI cJ cZ qh qn qr qs qp qi qj qw qo ) ++ (wdW cI cJ cZ qn S_n T_n U_n) ∧ Q r
def wp_X6_state (T_n : gWT) (x1 : Int) (x2 : Int) (Q : Int → Prop) : Prop :=
    wp_X6_isNoGuest x1 (fun (r1 : Int) => ((r1 = 0 → wp_X6_isOutside x2 0 1 (fun (r12 : Int) => ((r12 = 0 → wp_X5_placeOf T_n x1 x2 (fun (r27 : Int) => Q r27)) ∧ (¬ (r12 = 0) → Q (-2))))) ∧ (¬ (r1 = 0) → Q (-1))))

set_option maxHeartbeats 4000000 in
set_option maxRecDepth 20000 in
theorem c_X6_state {l : Launch} {D : va_G} {cI cJ cZ : ClassId} (qh : Nat → Nat) (qn : Nat → Nat) (qr : Nat → Nat) (qs : Nat → Nat) (qp : Nat → Nat) (qi : Nat → Nat) (qj : Nat → Nat) (qw : Nat → Nat) (qo : Nat → Nat) (S_n : gWS) (T_n : gWT) (U_n : gWU) (x1 : Int) (x2 : Int) (Q : Int → Prop) (h : wp_X6_state T_n x1 x2 Q) : KM l D (kT cI cJ cZ) 0 0 yX6_state wsX6_state rm_X6_state [.ref (qh 0), .int (iI x1), .int (iI x2)] ((wdX cI cJ cZ qh qn qr qs qp qi qj qw qo ) ++ (wdW cI cJ cZ qn S_n T_n U_n)) (rp_X6_state cI cJ cZ qh qn qr qs qp qi qj qw qo S_n T_n U_n Q) := by
  refine KM_intro (lv := [(0, .ref (qh 0)), (1, .int (iI x1)), (2, .int (iI x2))]) false rfl (by decide) (Nat.le_of_ble_eq_true rfl) rfl (fun h => absurd h (by decide)) (fun v ws hq => by obtain ⟨r, rfl, rfl, _⟩ := hq; exact Or.inr (Or.inl ⟨rfl, _, rfl⟩)) (fun A K C => ?_)
  refine k_iload_n C dX6_state_0 1 rfl rfl 1 rfl ?_
  have hM := c_X6_isNoGuest (l := l) (D := D) (cI := cI) (cJ := cJ) (cZ := cZ) x1 _ h
  refine k_callS C dX6_state_1 hM gX6_state_X6_isNoGuest rfl sg_X6_isNoGuest rfl (Nat.le_of_ble_eq_true rfl) ⟨⟨rfl, rfl⟩, by decide, by decide⟩ ⟨Nat.le_refl 0, Nat.le_refl 0⟩ [] [0, 1, 2, 3, 4, 5, 6, 7, 8, 9] rfl rfl rfl rfl (by decide) 0 0 ⟨rfl, rfl⟩ 4 rfl (fun v w1 hq1 => ?_)
  obtain ⟨r1, rfl, rfl, hb1, h⟩ := hq1
  refine k_perm C [0, 1, 2, 3, 4, 5, 6, 7, 8, 9] [.int (iI r1)] ((wdX cI cJ cZ qh qn qr qs qp qi qj qw qo ) ++ (wdW cI cJ cZ qn S_n T_n U_n)) rfl rfl rfl ?_
  obtain ⟨ht, hf⟩ := h
  refine k_if_eq C dX6_state_4 (by rcases hb1 with rfl | rfl <;> decide) 9 7 (by decide) rfl (fun hc4 => ?_) (fun hc4 => ?_)
  · have h := ht hc4; clear ht hf
    refine k_iload_n C dX6_state_9 2 rfl rfl 10 rfl ?_
    refine k_iconst C dX6_state_10 11 rfl ?_
    refine k_iconst C dX6_state_11 12 rfl ?_
    have hM := c_X6_isOutside (l := l) (D := D) (cI := cI) (cJ := cJ) (cZ := cZ) x2 0 1 _ h
    refine k_callS C dX6_state_12 hM gX6_state_X6_isOutside rfl sg_X6_isOutside rfl (Nat.le_of_ble_eq_true rfl) ⟨⟨rfl, rfl⟩, by decide, by decide⟩ ⟨Nat.le_refl 0, Nat.le_refl 0⟩ [] [0, 1, 2, 3, 4, 5, 6, 7, 8, 9] rfl rfl rfl rfl (by decide) 0 0 ⟨rfl, rfl⟩ 15 rfl (fun v w1 hq12 => ?_)
    obtain ⟨r12, rfl, rfl, hb12, h⟩ := hq12
    refine k_perm C [0, 1, 2, 3, 4, 5, 6, 7, 8, 9] [.int (iI r12)] ((wdX cI cJ cZ qh qn qr qs qp qi qj qw qo ) ++ (wdW cI cJ cZ qn S_n T_n U_n)) rfl rfl rfl ?_
    obtain ⟨ht, hf⟩ := h
    refine k_if_eq C dX6_state_15 (by rcases hb12 with rfl | rfl <;> decide) 21 18 (by decide) rfl (fun hc15 => ?_) (fun hc15 => ?_)
    · have h := ht hc15; clear ht hf
      refine k_aload_n C dX6_state_21 0 rfl rfl 22 rfl ?_
      refine k_get C dX6_state_22 0 rfl (ci := 6) rfl hin_X6_state_6 0 (by decide) (List.mem_of_getElem? (i := 1) rfl) rfl 25 rfl ?_
      refine k_iload_n C dX6_state_25 1 rfl rfl 26 rfl ?_
      refine k_iload_n C dX6_state_26 2 rfl rfl 27 rfl ?_
      have hM := c_X5_placeOf (l := l) (D := D) (cI := cI) (cJ := cJ) (cZ := cZ) qn S_n T_n U_n x1 x2 _ h
      refine k_callV C dX6_state_27 hM gX6_state_X5_placeOf rfl sg_X5_placeOf 5 rfl rfl rfl (Nat.le_of_ble_eq_true rfl) ⟨⟨rfl, rfl⟩, by decide, by decide⟩ ⟨Nat.le_refl 0, Nat.le_refl 0⟩ [1, 2, 3, 4, 5, 6, 7, 8, 9] [0] rfl rfl rfl rfl (by decide) 0 0 ⟨rfl, rfl⟩ 30 rfl (fun v w1 hq27 => ?_)
      obtain ⟨r27, rfl, rfl, h⟩ := hq27
      refine k_perm C [0, 1, 2, 3, 4, 5, 6, 7, 8, 9] [.int (iI r27)] ((wdX cI cJ cZ qh qn qr qs qp qi qj qw qo ) ++ (wdW cI cJ cZ qn S_n T_n U_n)) rfl rfl rfl ?_
      exact k_iret C dX6_state_30 ⟨r27, rfl, rfl, h⟩
    · have h := hf hc15; clear ht hf
      refine k_bipush C dX6_state_18 (by decide) 20 rfl ?_
      exact k_iret C dX6_state_20 ⟨(-2), rfl, rfl, h⟩
  · have h := hf hc4; clear ht hf
    refine k_iconst C dX6_state_7 8 rfl ?_
    exact k_iret C dX6_state_8 ⟨(-1), rfl, rfl, h⟩

/-! X6_behind -/
abbrev rm_X6_behind : Room := { frames := 5, cells := 0, slots := 0, locals := 157 }
theorem sg_X6_behind : yX6_behind.cls ≠ "java/lang/invoke/MethodHandle" ∧ yX6_behind.cls ≠ "java/lang/invoke/VarHandle" ∧ (parseMethodDescriptor yX6_behind.desc).map (fun d => d.parameters.length) = some 2 := by decide +kernel
theorem hin_X6_behind_6 : ∀ w ∈ wsX60, w ∈ wsX6_behind := fun _ h => List.mem_cons_of_mem _ (List.mem_append_left _ (List.mem_append_left _ (List.mem_append_right _ h)))
def rp_X6_behind (cI cJ cZ : ClassId) (qh : Nat → Nat) (qn : Nat → Nat) (qr : Nat → Nat) (qs : Nat → Nat) (qp : Nat → Nat) (qi : Nat → Nat) (qj : Nat → Nat) (qw : Nat → Nat) (qo : Nat → Nat) (S_n : gWS) (T_n : gWT) (U_n : gWU) (P_p : gPP) (Q : Int → gWS → gWT → gWU → Prop) : Option Value → va_W → Prop := fun v w1 => ∃ (r : Int) (S_r : gWS) (T_r : gWT) (U_r : gWU), v = some (.int (iI r)) ∧ w1 = (wdX cI cJ cZ qh qn qr qs qp qi qj qw qo ) ++ (wdW cI cJ cZ qn S_n T_n U_n) ++ (wdW cI cJ cZ qr S_r T_r U_r) ++ (wdP cI cJ cZ qp P_p) ∧ Q r S_r T_r U_r
def wp_X6_behind (S_n : gWS) (T_n : gWT) (S_r : gWS) (T_r : gWT) (U_r : gWU) (P_p : gPP) (x1 : Int) (x2 : Int) (Q : Int → gWS → gWT → gWU → Prop) : Prop :=
    wp_X6_isNoGuest x1 (fun (r1 : Int) => ((r1 = 0 → wp_X6_isOutside x2 0 1 (fun (r12 : Int) => ((r12 = 0 → wp_X6_tryPad S_n T_n S_r T_r U_r P_p (fun (r22 : Int) (S_r_22 : gWS) (T_r_22 : gWT) (U_r_22 : gWU) => rI r22 ∧ ((r22 = (-6) → wp_X5_placeOf T_r_22 x1 x2 (fun (r39 : Int) => Q r39 S_r_22 T_r_22 U_r_22)) ∧ (¬ (r22 = (-6)) → Q (-5) S_r_22 T_r_22 U_r_22)))) ∧ (¬ (r12 = 0) → Q (-2) S_r T_r U_r)))) ∧ (¬ (r1 = 0) → Q (-1) S_r T_r U_r)))

set_option maxHeartbeats 4000000 in
set_option maxRecDepth 20000 in
theorem c_X6_behind {l : Launch} {D : va_G} {cI cJ cZ : ClassId} (qh : Nat → Nat) (qn : Nat → Nat) (qr : Nat → Nat) (qs : Nat → Nat) (qp : Nat → Nat) (qi : Nat → Nat) (qj : Nat → Nat) (qw : Nat → Nat) (qo : Nat → Nat) (S_n : gWS) (T_n : gWT) (U_n : gWU) (S_r : gWS) (T_r : gWT) (U_r : gWU) (P_p : gPP) (x1 : Int) (x2 : Int) (Q : Int → gWS → gWT → gWU → Prop) (h : wp_X6_behind S_n T_n S_r T_r U_r P_p x1 x2 Q) : KM l D (kT cI cJ cZ) 0 0 yX6_behind wsX6_behind rm_X6_behind [.ref (qh 0), .int (iI x1), .int (iI x2)] ((wdX cI cJ cZ qh qn qr qs qp qi qj qw qo ) ++ (wdW cI cJ cZ qn S_n T_n U_n) ++ (wdW cI cJ cZ qr S_r T_r U_r) ++ (wdP cI cJ cZ qp P_p)) (rp_X6_behind cI cJ cZ qh qn qr qs qp qi qj qw qo S_n T_n U_n P_p Q) := by
  refine KM_intro (lv := [(0, .ref (qh 0)), (1, .int (iI x1)), (2, .int (iI x2))]) false rfl (by decide) (Nat.le_of_ble_eq_true rfl) rfl (fun h => absurd h (by decide)) (fun v ws hq => by obtain ⟨r, S_r, T_r, U_r, rfl, rfl, _⟩ := hq; exact Or.inr (Or.inl ⟨rfl, _, rfl⟩)) (fun A K C => ?_)
  refine k_iload_n C dX6_behind_0 1 rfl rfl 1 rfl ?_
  have hM := c_X6_isNoGuest (l := l) (D := D) (cI := cI) (cJ := cJ) (cZ := cZ) x1 _ h
  refine k_callS C dX6_behind_1 hM gX6_behind_X6_isNoGuest rfl sg_X6_isNoGuest rfl (Nat.le_of_ble_eq_true rfl) ⟨⟨rfl, rfl⟩, by decide, by decide⟩ ⟨Nat.le_refl 0, Nat.le_refl 0⟩ [] [0, 1, 2, 3, 4, 5, 6, 7, 8, 9, 10, 11, 12, 13, 14, 15, 16, 17, 18, 19, 20] rfl rfl rfl rfl (by decide) 0 0 ⟨rfl, rfl⟩ 4 rfl (fun v w1 hq1 => ?_)
  obtain ⟨r1, rfl, rfl, hb1, h⟩ := hq1
  refine k_perm C [0, 1, 2, 3, 4, 5, 6, 7, 8, 9, 10, 11, 12, 13, 14, 15, 16, 17, 18, 19, 20] [.int (iI r1)] ((wdX cI cJ cZ qh qn qr qs qp qi qj qw qo ) ++ (wdW cI cJ cZ qn S_n T_n U_n) ++ (wdW cI cJ cZ qr S_r T_r U_r) ++ (wdP cI cJ cZ qp P_p)) rfl rfl rfl ?_
  obtain ⟨ht, hf⟩ := h
  refine k_if_eq C dX6_behind_4 (by rcases hb1 with rfl | rfl <;> decide) 9 7 (by decide) rfl (fun hc4 => ?_) (fun hc4 => ?_)
  · have h := ht hc4; clear ht hf
    refine k_iload_n C dX6_behind_9 2 rfl rfl 10 rfl ?_
    refine k_iconst C dX6_behind_10 11 rfl ?_
    refine k_iconst C dX6_behind_11 12 rfl ?_
    have hM := c_X6_isOutside (l := l) (D := D) (cI := cI) (cJ := cJ) (cZ := cZ) x2 0 1 _ h
    refine k_callS C dX6_behind_12 hM gX6_behind_X6_isOutside rfl sg_X6_isOutside rfl (Nat.le_of_ble_eq_true rfl) ⟨⟨rfl, rfl⟩, by decide, by decide⟩ ⟨Nat.le_refl 0, Nat.le_refl 0⟩ [] [0, 1, 2, 3, 4, 5, 6, 7, 8, 9, 10, 11, 12, 13, 14, 15, 16, 17, 18, 19, 20] rfl rfl rfl rfl (by decide) 0 0 ⟨rfl, rfl⟩ 15 rfl (fun v w1 hq12 => ?_)
    obtain ⟨r12, rfl, rfl, hb12, h⟩ := hq12
    refine k_perm C [0, 1, 2, 3, 4, 5, 6, 7, 8, 9, 10, 11, 12, 13, 14, 15, 16, 17, 18, 19, 20] [.int (iI r12)] ((wdX cI cJ cZ qh qn qr qs qp qi qj qw qo ) ++ (wdW cI cJ cZ qn S_n T_n U_n) ++ (wdW cI cJ cZ qr S_r T_r U_r) ++ (wdP cI cJ cZ qp P_p)) rfl rfl rfl ?_
    obtain ⟨ht, hf⟩ := h
    refine k_if_eq C dX6_behind_15 (by rcases hb12 with rfl | rfl <;> decide) 21 18 (by decide) rfl (fun hc15 => ?_) (fun hc15 => ?_)
    · have h := ht hc15; clear ht hf
      refine k_aload_n C dX6_behind_21 0 rfl rfl 22 rfl ?_
      have hM := c_X6_tryPad (l := l) (D := D) (cI := cI) (cJ := cJ) (cZ := cZ) qh qn qr qs qp qi qj qw qo S_n T_n U_n S_r T_r U_r P_p _ h
      refine k_callV C dX6_behind_22 hM gX6_behind_X6_tryPad rfl sg_X6_tryPad 6 rfl rfl rfl (Nat.le_of_ble_eq_true rfl) ⟨⟨rfl, rfl⟩, by decide, by decide⟩ ⟨Nat.le_refl 0, Nat.le_refl 0⟩ [0, 1, 2, 3, 4, 5, 6, 7, 8, 9, 10, 11, 12, 13, 14, 15, 16, 17, 18, 19, 20] [] rfl rfl rfl rfl (by decide) 0 0 ⟨rfl, rfl⟩ 25 rfl (fun v w1 hq22 => ?_)
      obtain ⟨r22, S_r_22, T_r_22, U_r_22, rfl, rfl, h⟩ := hq22
      refine k_perm C [0, 1, 2, 3, 4, 5, 6, 7, 8, 9, 10, 11, 12, 13, 14, 15, 16, 17, 18, 19, 20] [.int (iI r22)] ((wdX cI cJ cZ qh qn qr qs qp qi qj qw qo ) ++ (wdW cI cJ cZ qn S_n T_n U_n) ++ (wdW cI cJ cZ qr S_r_22 T_r_22 U_r_22) ++ (wdP cI cJ cZ qp P_p)) rfl rfl rfl ?_
      refine k_bipush C dX6_behind_25 (by decide) 27 rfl ?_
      obtain ⟨hr27a, h⟩ := h
      obtain ⟨ht, hf⟩ := h
      refine k_icmp_eq C dX6_behind_27 ⟨hr27a, (by decide)⟩ 33 30 (by decide) rfl (fun hc27 => ?_) (fun hc27 => ?_)
      · have h := ht hc27; clear ht hf
        refine k_aload_n C dX6_behind_33 0 rfl rfl 34 rfl ?_
        refine k_get C dX6_behind_34 0 rfl (ci := 6) rfl hin_X6_behind_6 1 (by decide) (List.mem_of_getElem? (i := 1) rfl) rfl 37 rfl ?_
        refine k_iload_n C dX6_behind_37 1 rfl rfl 38 rfl ?_
        refine k_iload_n C dX6_behind_38 2 rfl rfl 39 rfl ?_
        have hM := c_X5_placeOf (l := l) (D := D) (cI := cI) (cJ := cJ) (cZ := cZ) qr S_r_22 T_r_22 U_r_22 x1 x2 _ h
        refine k_callV C dX6_behind_39 hM gX6_behind_X5_placeOf rfl sg_X5_placeOf 5 rfl rfl rfl (Nat.le_of_ble_eq_true rfl) ⟨⟨rfl, rfl⟩, by decide, by decide⟩ ⟨Nat.le_refl 0, Nat.le_refl 0⟩ [10, 11, 12, 13, 14, 15, 16, 17, 18] [0, 1, 2, 3, 4, 5, 6, 7, 8, 9, 19, 20] rfl rfl rfl rfl (by decide) 0 0 ⟨rfl, rfl⟩ 42 rfl (fun v w1 hq39 => ?_)
        obtain ⟨r39, rfl, rfl, h⟩ := hq39
        refine k_perm C [0, 1, 2, 3, 4, 5, 6, 7, 8, 9, 12, 13, 14, 15, 16, 17, 18, 19, 20, 10, 11] [.int (iI r39)] ((wdX cI cJ cZ qh qn qr qs qp qi qj qw qo ) ++ (wdW cI cJ cZ qn S_n T_n U_n) ++ (wdW cI cJ cZ qr S_r_22 T_r_22 U_r_22) ++ (wdP cI cJ cZ qp P_p)) rfl rfl rfl ?_
        exact k_iret C dX6_behind_42 ⟨r39, S_r_22, T_r_22, U_r_22, rfl, rfl, h⟩
      · have h := hf hc27; clear ht hf
        refine k_bipush C dX6_behind_30 (by decide) 32 rfl ?_
        exact k_iret C dX6_behind_32 ⟨(-5), S_r_22, T_r_22, U_r_22, rfl, rfl, h⟩
    · have h := hf hc15; clear ht hf
      refine k_bipush C dX6_behind_18 (by decide) 20 rfl ?_
      exact k_iret C dX6_behind_20 ⟨(-2), S_r, T_r, U_r, rfl, rfl, h⟩
  · have h := hf hc4; clear ht hf
    refine k_iconst C dX6_behind_7 8 rfl ?_
    exact k_iret C dX6_behind_8 ⟨(-1), S_r, T_r, U_r, rfl, rfl, h⟩

/-! X6_isNoColumn -/
abbrev rm_X6_isNoColumn : Room := { frames := 1, cells := 0, slots := 0, locals := 22 }
theorem sg_X6_isNoColumn : yX6_isNoColumn.cls ≠ "java/lang/invoke/MethodHandle" ∧ yX6_isNoColumn.cls ≠ "java/lang/invoke/VarHandle" ∧ (parseMethodDescriptor yX6_isNoColumn.desc).map (fun d => d.parameters.length) = some 1 := by decide +kernel
theorem hin_X6_isNoColumn_5 : ∀ w ∈ wsX50, w ∈ wsX6_isNoColumn := fun _ h => List.mem_cons_of_mem _ (List.mem_append_right _ h)
theorem hin_X6_isNoColumn_6 : ∀ w ∈ wsX60, w ∈ wsX6_isNoColumn := fun _ h => List.mem_cons_of_mem _ (List.mem_append_left _ (List.mem_append_right _ h))
def rp_X6_isNoColumn (cI cJ cZ : ClassId) (qh : Nat → Nat) (qn : Nat → Nat) (qr : Nat → Nat) (qs : Nat → Nat) (qp : Nat → Nat) (qi : Nat → Nat) (qj : Nat → Nat) (qw : Nat → Nat) (qo : Nat → Nat) (S_n : gWS) (T_n : gWT) (U_n : gWU) (Q : Int → Prop) : Option Value → va_W → Prop := fun v w1 => ∃ (r : Int), v = some (.int (iI r)) ∧ w1 = (wdX cI cJ cZ qh qn qr qs qp qi qj qw qo ) ++ (wdW cI cJ cZ qn S_n T_n U_n) ∧ (r = 0 ∨ r = 1) ∧ Q r
def wp_X6_isNoColumn (S_n : gWS) (x1 : Int) (Q : Int → Prop) : Prop :=
    wp_X6_isOutside x1 0 (S_n.1 - 1) (fun (r11 : Int) => Q r11)

set_option maxHeartbeats 4000000 in
set_option maxRecDepth 20000 in
theorem c_X6_isNoColumn {l : Launch} {D : va_G} {cI cJ cZ : ClassId} (qh : Nat → Nat) (qn : Nat → Nat) (qr : Nat → Nat) (qs : Nat → Nat) (qp : Nat → Nat) (qi : Nat → Nat) (qj : Nat → Nat) (qw : Nat → Nat) (qo : Nat → Nat) (S_n : gWS) (T_n : gWT) (U_n : gWU) (x1 : Int) (Q : Int → Prop) (h : wp_X6_isNoColumn S_n x1 Q) : KM l D (kT cI cJ cZ) 0 0 yX6_isNoColumn wsX6_isNoColumn rm_X6_isNoColumn [.ref (qh 0), .int (iI x1)] ((wdX cI cJ cZ qh qn qr qs qp qi qj qw qo ) ++ (wdW cI cJ cZ qn S_n T_n U_n)) (rp_X6_isNoColumn cI cJ cZ qh qn qr qs qp qi qj qw qo S_n T_n U_n Q) := by
  refine KM_intro (lv := [(0, .ref (qh 0)), (1, .int (iI x1))]) false rfl (by decide) (Nat.le_of_ble_eq_true rfl) rfl (fun h => absurd h (by decide)) (fun v ws hq => by obtain ⟨r, rfl, rfl, hb, _⟩ := hq; exact Or.inr (Or.inr (Or.inl ⟨rfl, by rcases hb with rfl | rfl; exact Or.inl rfl; exact Or.inr rfl⟩))) (fun A K C => ?_)
  refine k_iload_n C dX6_isNoColumn_0 1 rfl rfl 1 rfl ?_
  refine k_iconst C dX6_isNoColumn_1 2 rfl ?_
  refine k_aload_n C dX6_isNoColumn_2 0 rfl rfl 3 rfl ?_
  refine k_get C dX6_isNoColumn_3 0 rfl (ci := 6) rfl hin_X6_isNoColumn_6 0 (by decide) (List.mem_of_getElem? (i := 1) rfl) rfl 6 rfl ?_
  refine k_getN C dX6_isNoColumn_6 1 rfl (ci := 5) rfl hin_X6_isNoColumn_5 0 (by decide) (List.mem_of_getElem? (i := 1) rfl) rfl 9 rfl ?_
  refine k_iconst C dX6_isNoColumn_9 10 rfl ?_
  refine k_isub C dX6_isNoColumn_10 11 rfl ?_
  have hM := c_X6_isOutside (l := l) (D := D) (cI := cI) (cJ := cJ) (cZ := cZ) x1 0 (S_n.1 - 1) _ h
  refine k_callS C dX6_isNoColumn_11 hM gX6_isNoColumn_X6_isOutside rfl sg_X6_isOutside rfl (Nat.le_of_ble_eq_true rfl) ⟨⟨rfl, rfl⟩, by decide, by decide⟩ ⟨Nat.le_refl 0, Nat.le_refl 0⟩ [] [0, 1, 2, 3, 4, 5, 6, 7, 8, 9] rfl rfl rfl rfl (by decide) 0 0 ⟨rfl, rfl⟩ 14 rfl (fun v w1 hq11 => ?_)
  obtain ⟨r11, rfl, rfl, hb11, h⟩ := hq11
  refine k_perm C [0, 1, 2, 3, 4, 5, 6, 7, 8, 9] [.int (iI r11)] ((wdX cI cJ cZ qh qn qr qs qp qi qj qw qo ) ++ (wdW cI cJ cZ qn S_n T_n U_n)) rfl rfl rfl ?_
  exact k_iret C dX6_isNoColumn_14 ⟨r11, rfl, rfl, hb11, h⟩

/-! X6_height -/
abbrev rm_X6_height : Room := { frames := 5, cells := 0, slots := 0, locals := 157 }
theorem sg_X6_height : yX6_height.cls ≠ "java/lang/invoke/MethodHandle" ∧ yX6_height.cls ≠ "java/lang/invoke/VarHandle" ∧ (parseMethodDescriptor yX6_height.desc).map (fun d => d.parameters.length) = some 1 := by decide +kernel
theorem hin_X6_height_5 : ∀ w ∈ wsX50, w ∈ wsX6_height := fun _ h => List.mem_cons_of_mem _ (List.mem_append_left _ (List.mem_append_right _ h))
theorem hin_X6_height_6 : ∀ w ∈ wsX60, w ∈ wsX6_height := fun _ h => List.mem_cons_of_mem _ (List.mem_append_left _ (List.mem_append_left _ (List.mem_append_right _ h)))
def rp_X6_height (cI cJ cZ : ClassId) (qh : Nat → Nat) (qn : Nat → Nat) (qr : Nat → Nat) (qs : Nat → Nat) (qp : Nat → Nat) (qi : Nat → Nat) (qj : Nat → Nat) (qw : Nat → Nat) (qo : Nat → Nat) (S_n : gWS) (T_n : gWT) (U_n : gWU) (P_p : gPP) (Q : Int → gWS → gWT → gWU → Prop) : Option Value → va_W → Prop := fun v w1 => ∃ (r : Int) (S_r : gWS) (T_r : gWT) (U_r : gWU), v = some (.int (iI r)) ∧ w1 = (wdX cI cJ cZ qh qn qr qs qp qi qj qw qo ) ++ (wdW cI cJ cZ qn S_n T_n U_n) ++ (wdW cI cJ cZ qr S_r T_r U_r) ++ (wdP cI cJ cZ qp P_p) ∧ Q r S_r T_r U_r
def wp_X6_height (S_n : gWS) (T_n : gWT) (S_r : gWS) (T_r : gWT) (U_r : gWU) (P_p : gPP) (x1 : Int) (Q : Int → gWS → gWT → gWU → Prop) : Prop :=
    wp_X6_isNoColumn S_n x1 (fun (r2 : Int) => ((r2 = 0 → wp_X6_tryPad S_n T_n S_r T_r U_r P_p (fun (r11 : Int) (S_r_11 : gWS) (T_r_11 : gWT) (U_r_11 : gWU) => rI r11 ∧ ((r11 = (-6) → wp_X6_at 9 T_r_11.2.2.2.2 x1 (fun (r30 : Int) => Q r30 S_r_11 T_r_11 U_r_11)) ∧ (¬ (r11 = (-6)) → Q (-5) S_r_11 T_r_11 U_r_11)))) ∧ (¬ (r2 = 0) → Q (-1) S_r T_r U_r)))

set_option maxHeartbeats 4000000 in
set_option maxRecDepth 20000 in
theorem c_X6_height {l : Launch} {D : va_G} {cI cJ cZ : ClassId} (qh : Nat → Nat) (qn : Nat → Nat) (qr : Nat → Nat) (qs : Nat → Nat) (qp : Nat → Nat) (qi : Nat → Nat) (qj : Nat → Nat) (qw : Nat → Nat) (qo : Nat → Nat) (S_n : gWS) (T_n : gWT) (U_n : gWU) (S_r : gWS) (T_r : gWT) (U_r : gWU) (P_p : gPP) (x1 : Int) (Q : Int → gWS → gWT → gWU → Prop) (h : wp_X6_height S_n T_n S_r T_r U_r P_p x1 Q) : KM l D (kT cI cJ cZ) 0 0 yX6_height wsX6_height rm_X6_height [.ref (qh 0), .int (iI x1)] ((wdX cI cJ cZ qh qn qr qs qp qi qj qw qo ) ++ (wdW cI cJ cZ qn S_n T_n U_n) ++ (wdW cI cJ cZ qr S_r T_r U_r) ++ (wdP cI cJ cZ qp P_p)) (rp_X6_height cI cJ cZ qh qn qr qs qp qi qj qw qo S_n T_n U_n P_p Q) := by
  refine KM_intro (lv := [(0, .ref (qh 0)), (1, .int (iI x1))]) false rfl (by decide) (Nat.le_of_ble_eq_true rfl) rfl (fun h => absurd h (by decide)) (fun v ws hq => by obtain ⟨r, S_r, T_r, U_r, rfl, rfl, _⟩ := hq; exact Or.inr (Or.inl ⟨rfl, _, rfl⟩)) (fun A K C => ?_)
  refine k_aload_n C dX6_height_0 0 rfl rfl 1 rfl ?_
  refine k_iload_n C dX6_height_1 1 rfl rfl 2 rfl ?_
  have hM := c_X6_isNoColumn (l := l) (D := D) (cI := cI) (cJ := cJ) (cZ := cZ) qh qn qr qs qp qi qj qw qo S_n T_n U_n x1 _ h
  refine k_callV C dX6_height_2 hM gX6_height_X6_isNoColumn rfl sg_X6_isNoColumn 6 rfl rfl rfl (Nat.le_of_ble_eq_true rfl) ⟨⟨rfl, rfl⟩, by decide, by decide⟩ ⟨Nat.le_refl 0, Nat.le_refl 0⟩ [0, 1, 2, 3, 4, 5, 6, 7, 8, 9] [10, 11, 12, 13, 14, 15, 16, 17, 18, 19, 20] rfl rfl rfl rfl (by decide) 0 0 ⟨rfl, rfl⟩ 5 rfl (fun v w1 hq2 => ?_)
  obtain ⟨r2, rfl, rfl, hb2, h⟩ := hq2
  refine k_perm C [11, 12, 13, 14, 15, 16, 17, 18, 19, 20, 0, 1, 2, 3, 4, 5, 6, 7, 8, 9, 10] [.int (iI r2)] ((wdX cI cJ cZ qh qn qr qs qp qi qj qw qo ) ++ (wdW cI cJ cZ qn S_n T_n U_n) ++ (wdW cI cJ cZ qr S_r T_r U_r) ++ (wdP cI cJ cZ qp P_p)) rfl rfl rfl ?_
  obtain ⟨ht, hf⟩ := h
  refine k_if_eq C dX6_height_5 (by rcases hb2 with rfl | rfl <;> decide) 10 8 (by decide) rfl (fun hc5 => ?_) (fun hc5 => ?_)
  · have h := ht hc5; clear ht hf
    refine k_aload_n C dX6_height_10 0 rfl rfl 11 rfl ?_
    have hM := c_X6_tryPad (l := l) (D := D) (cI := cI) (cJ := cJ) (cZ := cZ) qh qn qr qs qp qi qj qw qo S_n T_n U_n S_r T_r U_r P_p _ h
    refine k_callV C dX6_height_11 hM gX6_height_X6_tryPad rfl sg_X6_tryPad 6 rfl rfl rfl (Nat.le_of_ble_eq_true rfl) ⟨⟨rfl, rfl⟩, by decide, by decide⟩ ⟨Nat.le_refl 0, Nat.le_refl 0⟩ [0, 1, 2, 3, 4, 5, 6, 7, 8, 9, 10, 11, 12, 13, 14, 15, 16, 17, 18, 19, 20] [] rfl rfl rfl rfl (by decide) 0 0 ⟨rfl, rfl⟩ 14 rfl (fun v w1 hq11 => ?_)
    obtain ⟨r11, S_r_11, T_r_11, U_r_11, rfl, rfl, h⟩ := hq11
    refine k_perm C [0, 1, 2, 3, 4, 5, 6, 7, 8, 9, 10, 11, 12, 13, 14, 15, 16, 17, 18, 19, 20] [.int (iI r11)] ((wdX cI cJ cZ qh qn qr qs qp qi qj qw qo ) ++ (wdW cI cJ cZ qn S_n T_n U_n) ++ (wdW cI cJ cZ qr S_r_11 T_r_11 U_r_11) ++ (wdP cI cJ cZ qp P_p)) rfl rfl rfl ?_
    refine k_bipush C dX6_height_14 (by decide) 16 rfl ?_
    obtain ⟨hr16a, h⟩ := h
    obtain ⟨ht, hf⟩ := h
    refine k_icmp_eq C dX6_height_16 ⟨hr16a, (by decide)⟩ 22 19 (by decide) rfl (fun hc16 => ?_) (fun hc16 => ?_)
    · have h := ht hc16; clear ht hf
      refine k_aload_n C dX6_height_22 0 rfl rfl 23 rfl ?_
      refine k_get C dX6_height_23 0 rfl (ci := 6) rfl hin_X6_height_6 1 (by decide) (List.mem_of_getElem? (i := 1) rfl) rfl 26 rfl ?_
      refine k_getN C dX6_height_26 10 rfl (ci := 5) rfl hin_X6_height_5 9 (by decide) (List.mem_of_getElem? (i := 10) rfl) rfl 29 rfl ?_
      refine k_iload_n C dX6_height_29 1 rfl rfl 30 rfl ?_
      have hM := c_X6_at (l := l) (D := D) (cI := cI) (cJ := cJ) (cZ := cZ) (qr 7) 9 (by decide) T_r_11.2.2.2.2 x1 _ h
      refine k_callS C dX6_height_30 hM gX6_height_X6_at rfl sg_X6_at rfl (Nat.le_of_ble_eq_true rfl) ⟨⟨rfl, rfl⟩, by decide, by decide⟩ ⟨Nat.le_refl 0, Nat.le_refl 0⟩ [17] [0, 1, 2, 3, 4, 5, 6, 7, 8, 9, 10, 11, 12, 13, 14, 15, 16, 18, 19, 20] rfl rfl rfl rfl (by decide) 0 0 ⟨rfl, rfl⟩ 33 rfl (fun v w1 hq30 => ?_)
      obtain ⟨r30, rfl, rfl, h⟩ := hq30
      refine k_perm C [0, 1, 2, 3, 4, 5, 6, 7, 8, 9, 10, 11, 12, 13, 14, 15, 16, 20, 17, 18, 19] [.int (iI r30)] ((wdX cI cJ cZ qh qn qr qs qp qi qj qw qo ) ++ (wdW cI cJ cZ qn S_n T_n U_n) ++ (wdW cI cJ cZ qr S_r_11 T_r_11 U_r_11) ++ (wdP cI cJ cZ qp P_p)) rfl rfl rfl ?_
      exact k_iret C dX6_height_33 ⟨r30, S_r_11, T_r_11, U_r_11, rfl, rfl, h⟩
    · have h := hf hc16; clear ht hf
      refine k_bipush C dX6_height_19 (by decide) 21 rfl ?_
      exact k_iret C dX6_height_21 ⟨(-5), S_r_11, T_r_11, U_r_11, rfl, rfl, h⟩
  · have h := hf hc5; clear ht hf
    refine k_iconst C dX6_height_8 9 rfl ?_
    exact k_iret C dX6_height_9 ⟨(-1), S_r, T_r, U_r, rfl, rfl, h⟩

/-! X6_load -/
abbrev rm_X6_load : Room := { frames := 3, cells := 0, slots := 0, locals := 108 }
theorem sg_X6_load : yX6_load.cls ≠ "java/lang/invoke/MethodHandle" ∧ yX6_load.cls ≠ "java/lang/invoke/VarHandle" ∧ (parseMethodDescriptor yX6_load.desc).map (fun d => d.parameters.length) = some 2 := by decide +kernel
theorem hin_X6_load_5 : ∀ w ∈ wsX50, w ∈ wsX6_load := fun _ h => List.mem_cons_of_mem _ (List.mem_append_right _ h)
theorem hin_X6_load_6 : ∀ w ∈ wsX60, w ∈ wsX6_load := fun _ h => List.mem_cons_of_mem _ (List.mem_append_left _ (List.mem_append_right _ h))
def rp_X6_load (cI cJ cZ : ClassId) (qh : Nat → Nat) (qn : Nat → Nat) (qr : Nat → Nat) (qs : Nat → Nat) (qp : Nat → Nat) (qi : Nat → Nat) (qj : Nat → Nat) (qw : Nat → Nat) (qo : Nat → Nat) (S_n : gWS) (T_n : gWT) (Q : Int → gWU → Prop) : Option Value → va_W → Prop := fun v w1 => ∃ (r : Int) (U_n : gWU), v = some (.long (lL r)) ∧ w1 = (wdX cI cJ cZ qh qn qr qs qp qi qj qw qo ) ++ (wdW cI cJ cZ qn S_n T_n U_n) ∧ Q r U_n
def wp_X6_load (S_n : gWS) (T_n : gWT) (U_n : gWU) (x1 : Int) (x2 : Int) (Q : Int → gWU → Prop) : Prop :=
    wp_X6_isNoGuest x1 (fun (r1 : Int) => ((r1 = 0 → wp_X6_isOutside x2 0 1 (fun (r14 : Int) => ((r14 = 0 → wp_X5_isLaid T_n x1 (fun (r29 : Int) => ((¬ r29 = 0 → wp_X5_weigh S_n T_n U_n (fun (U_n_43 : gWU) => wp_X6_at_ 10 U_n_43 x1 (fun (r54 : Int) => wp_X6_inLowestTerms r54 10077696 x2 (fun (r61 : Int) => Q r61 U_n_43)))) ∧ (¬ (¬ r29 = 0) → Q (-1000000000000000003) U_n)))) ∧ (¬ (r14 = 0) → Q (-1000000000000000002) U_n)))) ∧ (¬ (r1 = 0) → Q (-1000000000000000001) U_n)))

set_option maxHeartbeats 4000000 in
set_option maxRecDepth 20000 in
theorem c_X6_load {l : Launch} {D : va_G} {cI cJ cZ : ClassId} (qh : Nat → Nat) (qn : Nat → Nat) (qr : Nat → Nat) (qs : Nat → Nat) (qp : Nat → Nat) (qi : Nat → Nat) (qj : Nat → Nat) (qw : Nat → Nat) (qo : Nat → Nat) (S_n : gWS) (T_n : gWT) (U_n : gWU) (x1 : Int) (x2 : Int) (Q : Int → gWU → Prop) (h : wp_X6_load S_n T_n U_n x1 x2 Q) : KM l D (kT cI cJ cZ) 0 0 yX6_load wsX6_load rm_X6_load [.ref (qh 0), .int (iI x1), .int (iI x2)] ((wdX cI cJ cZ qh qn qr qs qp qi qj qw qo ) ++ (wdW cI cJ cZ qn S_n T_n U_n)) (rp_X6_load cI cJ cZ qh qn qr qs qp qi qj qw qo S_n T_n Q) := by
  refine KM_intro (lv := [(0, .ref (qh 0)), (1, .int (iI x1)), (2, .int (iI x2))]) false rfl (by decide) (Nat.le_of_ble_eq_true rfl) rfl (fun h => absurd h (by decide)) (fun v ws hq => by obtain ⟨r, U_n, rfl, rfl, _⟩ := hq; exact Or.inr (Or.inr (Or.inr ⟨rfl, _, rfl⟩))) (fun A K C => ?_)
  refine k_iload_n C dX6_load_0 1 rfl rfl 1 rfl ?_
  have hM := c_X6_isNoGuest (l := l) (D := D) (cI := cI) (cJ := cJ) (cZ := cZ) x1 _ h
  refine k_callS C dX6_load_1 hM gX6_load_X6_isNoGuest rfl sg_X6_isNoGuest rfl (Nat.le_of_ble_eq_true rfl) ⟨⟨rfl, rfl⟩, by decide, by decide⟩ ⟨Nat.le_refl 0, Nat.le_refl 0⟩ [] [0, 1, 2, 3, 4, 5, 6, 7, 8, 9] rfl rfl rfl rfl (by decide) 0 0 ⟨rfl, rfl⟩ 4 rfl (fun v w1 hq1 => ?_)
  obtain ⟨r1, rfl, rfl, hb1, h⟩ := hq1
  refine k_perm C [0, 1, 2, 3, 4, 5, 6, 7, 8, 9] [.int (iI r1)] ((wdX cI cJ cZ qh qn qr qs qp qi qj qw qo ) ++ (wdW cI cJ cZ qn S_n T_n U_n)) rfl rfl rfl ?_
  obtain ⟨ht, hf⟩ := h
  refine k_if_eq C dX6_load_4 (by rcases hb1 with rfl | rfl <;> decide) 11 7 (by decide) rfl (fun hc4 => ?_) (fun hc4 => ?_)
  · have h := ht hc4; clear ht hf
    refine k_iload_n C dX6_load_11 2 rfl rfl 12 rfl ?_
    refine k_iconst C dX6_load_12 13 rfl ?_
    refine k_iconst C dX6_load_13 14 rfl ?_
    have hM := c_X6_isOutside (l := l) (D := D) (cI := cI) (cJ := cJ) (cZ := cZ) x2 0 1 _ h
    refine k_callS C dX6_load_14 hM gX6_load_X6_isOutside rfl sg_X6_isOutside rfl (Nat.le_of_ble_eq_true rfl) ⟨⟨rfl, rfl⟩, by decide, by decide⟩ ⟨Nat.le_refl 0, Nat.le_refl 0⟩ [] [0, 1, 2, 3, 4, 5, 6, 7, 8, 9] rfl rfl rfl rfl (by decide) 0 0 ⟨rfl, rfl⟩ 17 rfl (fun v w1 hq14 => ?_)
    obtain ⟨r14, rfl, rfl, hb14, h⟩ := hq14
    refine k_perm C [0, 1, 2, 3, 4, 5, 6, 7, 8, 9] [.int (iI r14)] ((wdX cI cJ cZ qh qn qr qs qp qi qj qw qo ) ++ (wdW cI cJ cZ qn S_n T_n U_n)) rfl rfl rfl ?_
    obtain ⟨ht, hf⟩ := h
    refine k_if_eq C dX6_load_17 (by rcases hb14 with rfl | rfl <;> decide) 24 20 (by decide) rfl (fun hc17 => ?_) (fun hc17 => ?_)
    · have h := ht hc17; clear ht hf
      refine k_aload_n C dX6_load_24 0 rfl rfl 25 rfl ?_
      refine k_get C dX6_load_25 0 rfl (ci := 6) rfl hin_X6_load_6 0 (by decide) (List.mem_of_getElem? (i := 3) rfl) rfl 28 rfl ?_
      refine k_iload_n C dX6_load_28 1 rfl rfl 29 rfl ?_
      have hM := c_X5_isLaid (l := l) (D := D) (cI := cI) (cJ := cJ) (cZ := cZ) qn S_n T_n U_n x1 _ h
      refine k_callV C dX6_load_29 hM gX6_load_X5_isLaid rfl sg_X5_isLaid 5 rfl rfl rfl (Nat.le_of_ble_eq_true rfl) ⟨⟨rfl, rfl⟩, by decide, by decide⟩ ⟨Nat.le_refl 0, Nat.le_refl 0⟩ [1, 2, 3, 4, 5, 6, 7, 8, 9] [0] rfl rfl rfl rfl (by decide) 0 0 ⟨rfl, rfl⟩ 32 rfl (fun v w1 hq29 => ?_)
      obtain ⟨r29, rfl, rfl, hb29, h⟩ := hq29
      refine k_perm C [0, 1, 2, 3, 4, 5, 6, 7, 8, 9] [.int (iI r29)] ((wdX cI cJ cZ qh qn qr qs qp qi qj qw qo ) ++ (wdW cI cJ cZ qn S_n T_n U_n)) rfl rfl rfl ?_
      obtain ⟨ht, hf⟩ := h
      refine k_if_ne C dX6_load_32 (by rcases hb29 with rfl | rfl <;> decide) 39 35 (by decide) rfl (fun hc32 => ?_) (fun hc32 => ?_)
      · have h := ht hc32; clear ht hf
        refine k_aload_n C dX6_load_39 0 rfl rfl 40 rfl ?_
        refine k_get C dX6_load_40 0 rfl (ci := 6) rfl hin_X6_load_6 0 (by decide) (List.mem_of_getElem? (i := 3) rfl) rfl 43 rfl ?_
        have hM := c_X5_weigh (l := l) (D := D) (cI := cI) (cJ := cJ) (cZ := cZ) qn S_n T_n U_n _ h
        refine k_callV C dX6_load_43 hM gX6_load_X5_weigh rfl sg_X5_weigh 5 rfl rfl rfl (Nat.le_of_ble_eq_true rfl) ⟨⟨rfl, rfl⟩, by decide, by decide⟩ ⟨Nat.le_refl 0, Nat.le_refl 0⟩ [1, 2, 3, 4, 5, 6, 7, 8, 9] [0] rfl rfl rfl rfl (by decide) 0 0 ⟨rfl, rfl⟩ 46 rfl (fun v w1 hq43 => ?_)
        obtain ⟨U_n_43, rfl, rfl, h⟩ := hq43
        refine k_perm C [0, 1, 2, 3, 4, 5, 6, 7, 8, 9] [] ((wdX cI cJ cZ qh qn qr qs qp qi qj qw qo ) ++ (wdW cI cJ cZ qn S_n T_n U_n_43)) rfl rfl rfl ?_
        refine k_aload_n C dX6_load_46 0 rfl rfl 47 rfl ?_
        refine k_get C dX6_load_47 0 rfl (ci := 6) rfl hin_X6_load_6 0 (by decide) (List.mem_of_getElem? (i := 3) rfl) rfl 50 rfl ?_
        refine k_getN C dX6_load_50 1 rfl (ci := 5) rfl hin_X6_load_5 10 (by decide) (List.mem_of_getElem? (i := 11) rfl) rfl 53 rfl ?_
        refine k_iload_n C dX6_load_53 1 rfl rfl 54 rfl ?_
        have hM := c_X6_at_ (l := l) (D := D) (cI := cI) (cJ := cJ) (cZ := cZ) (qn 8) 10 (by decide) U_n_43 x1 _ h
        refine k_callS C dX6_load_54 hM gX6_load_X6_at_ rfl sg_X6_at_ rfl (Nat.le_of_ble_eq_true rfl) ⟨⟨rfl, rfl⟩, by decide, by decide⟩ ⟨Nat.le_refl 0, Nat.le_refl 0⟩ [9] [0, 1, 2, 3, 4, 5, 6, 7, 8] rfl rfl rfl rfl (by decide) 0 0 ⟨rfl, rfl⟩ 57 rfl (fun v w1 hq54 => ?_)
        obtain ⟨r54, rfl, rfl, h⟩ := hq54
        refine k_perm C [0, 1, 2, 3, 4, 5, 6, 7, 8, 9] [.long (lL r54)] ((wdX cI cJ cZ qh qn qr qs qp qi qj qw qo ) ++ (wdW cI cJ cZ qn S_n T_n U_n_43)) rfl rfl rfl ?_
        refine k_ldc2 (v := 10077696) C dX6_load_57 (List.mem_of_getElem? (i := 5) rfl) (by decide) 60 rfl ?_
        refine k_iload_n C dX6_load_60 2 rfl rfl 61 rfl ?_
        have hM := c_X6_inLowestTerms (l := l) (D := D) (cI := cI) (cJ := cJ) (cZ := cZ) r54 10077696 x2 _ h
        refine k_callS C dX6_load_61 hM gX6_load_X6_inLowestTerms rfl sg_X6_inLowestTerms rfl (Nat.le_of_ble_eq_true rfl) ⟨⟨rfl, rfl⟩, by decide, by decide⟩ ⟨Nat.le_refl 0, Nat.le_refl 0⟩ [] [0, 1, 2, 3, 4, 5, 6, 7, 8, 9] rfl rfl rfl rfl (by decide) 0 0 ⟨rfl, rfl⟩ 64 rfl (fun v w1 hq61 => ?_)
        obtain ⟨r61, rfl, rfl, h⟩ := hq61
        refine k_perm C [0, 1, 2, 3, 4, 5, 6, 7, 8, 9] [.long (lL r61)] ((wdX cI cJ cZ qh qn qr qs qp qi qj qw qo ) ++ (wdW cI cJ cZ qn S_n T_n U_n_43)) rfl rfl rfl ?_
        exact k_lret C dX6_load_64 ⟨r61, U_n_43, rfl, rfl, h⟩
      · have h := hf hc32; clear ht hf
        refine k_ldc2 (v := (-1000000000000000003)) C dX6_load_35 (List.mem_of_getElem? (i := 4) rfl) (by decide) 38 rfl ?_
        exact k_lret C dX6_load_38 ⟨(-1000000000000000003), U_n, rfl, rfl, h⟩
    · have h := hf hc17; clear ht hf
      refine k_ldc2 (v := (-1000000000000000002)) C dX6_load_20 (List.mem_of_getElem? (i := 2) rfl) (by decide) 23 rfl ?_
      exact k_lret C dX6_load_23 ⟨(-1000000000000000002), U_n, rfl, rfl, h⟩
  · have h := hf hc4; clear ht hf
    refine k_ldc2 (v := (-1000000000000000001)) C dX6_load_7 (List.mem_of_getElem? (i := 1) rfl) (by decide) 10 rfl ?_
    exact k_lret C dX6_load_10 ⟨(-1000000000000000001), U_n, rfl, rfl, h⟩

/-! X6_strain -/
abbrev rm_X6_strain : Room := { frames := 3, cells := 0, slots := 0, locals := 108 }
theorem sg_X6_strain : yX6_strain.cls ≠ "java/lang/invoke/MethodHandle" ∧ yX6_strain.cls ≠ "java/lang/invoke/VarHandle" ∧ (parseMethodDescriptor yX6_strain.desc).map (fun d => d.parameters.length) = some 1 := by decide +kernel
theorem hin_X6_strain_6 : ∀ w ∈ wsX60, w ∈ wsX6_strain := fun _ h => List.mem_cons_of_mem _ (List.mem_append_left _ (List.mem_append_right _ h))
def rp_X6_strain (cI cJ cZ : ClassId) (qh : Nat → Nat) (qn : Nat → Nat) (qr : Nat → Nat) (qs : Nat → Nat) (qp : Nat → Nat) (qi : Nat → Nat) (qj : Nat → Nat) (qw : Nat → Nat) (qo : Nat → Nat) (S_n : gWS) (T_n : gWT) (Q : Int → gWU → Prop) : Option Value → va_W → Prop := fun v w1 => ∃ (r : Int) (U_n : gWU), v = some (.long (lL r)) ∧ w1 = (wdX cI cJ cZ qh qn qr qs qp qi qj qw qo ) ++ (wdW cI cJ cZ qn S_n T_n U_n) ∧ Q r U_n
def wp_X6_strain (S_n : gWS) (T_n : gWT) (U_n : gWU) (x1 : Int) (Q : Int → gWU → Prop) : Prop :=
    wp_X6_isOutside x1 0 1 (fun (r3 : Int) => ((r3 = 0 → wp_X5_weigh S_n T_n U_n (fun (U_n_17 : gWU) => wp_X5_mostStrained S_n T_n U_n_17 (fun (r24 : Int) => wp_X5_strainUpper U_n_17 r24 (fun (r33 : Int) => wp_X5_strainLower S_n r24 (fun (r41 : Int) => wp_X6_inLowestTerms r33 (r41 * 10077696) x1 (fun (r49 : Int) => Q r49 U_n_17)))))) ∧ (¬ (r3 = 0) → Q (-1000000000000000002) U_n)))

set_option maxHeartbeats 4000000 in
set_option maxRecDepth 20000 in
theorem c_X6_strain {l : Launch} {D : va_G} {cI cJ cZ : ClassId} (qh : Nat → Nat) (qn : Nat → Nat) (qr : Nat → Nat) (qs : Nat → Nat) (qp : Nat → Nat) (qi : Nat → Nat) (qj : Nat → Nat) (qw : Nat → Nat) (qo : Nat → Nat) (S_n : gWS) (T_n : gWT) (U_n : gWU) (x1 : Int) (Q : Int → gWU → Prop) (h : wp_X6_strain S_n T_n U_n x1 Q) : KM l D (kT cI cJ cZ) 0 0 yX6_strain wsX6_strain rm_X6_strain [.ref (qh 0), .int (iI x1)] ((wdX cI cJ cZ qh qn qr qs qp qi qj qw qo ) ++ (wdW cI cJ cZ qn S_n T_n U_n)) (rp_X6_strain cI cJ cZ qh qn qr qs qp qi qj qw qo S_n T_n Q) := by
  refine KM_intro (lv := [(0, .ref (qh 0)), (1, .int (iI x1))]) false rfl (by decide) (Nat.le_of_ble_eq_true rfl) rfl (fun h => absurd h (by decide)) (fun v ws hq => by obtain ⟨r, U_n, rfl, rfl, _⟩ := hq; exact Or.inr (Or.inr (Or.inr ⟨rfl, _, rfl⟩))) (fun A K C => ?_)
  refine k_iload_n C dX6_strain_0 1 rfl rfl 1 rfl ?_
  refine k_iconst C dX6_strain_1 2 rfl ?_
  refine k_iconst C dX6_strain_2 3 rfl ?_
  have hM := c_X6_isOutside (l := l) (D := D) (cI := cI) (cJ := cJ) (cZ := cZ) x1 0 1 _ h
  refine k_callS C dX6_strain_3 hM gX6_strain_X6_isOutside rfl sg_X6_isOutside rfl (Nat.le_of_ble_eq_true rfl) ⟨⟨rfl, rfl⟩, by decide, by decide⟩ ⟨Nat.le_refl 0, Nat.le_refl 0⟩ [] [0, 1, 2, 3, 4, 5, 6, 7, 8, 9] rfl rfl rfl rfl (by decide) 0 0 ⟨rfl, rfl⟩ 6 rfl (fun v w1 hq3 => ?_)
  obtain ⟨r3, rfl, rfl, hb3, h⟩ := hq3
  refine k_perm C [0, 1, 2, 3, 4, 5, 6, 7, 8, 9] [.int (iI r3)] ((wdX cI cJ cZ qh qn qr qs qp qi qj qw qo ) ++ (wdW cI cJ cZ qn S_n T_n U_n)) rfl rfl rfl ?_
  obtain ⟨ht, hf⟩ := h
  refine k_if_eq C dX6_strain_6 (by rcases hb3 with rfl | rfl <;> decide) 13 9 (by decide) rfl (fun hc6 => ?_) (fun hc6 => ?_)
  · have h := ht hc6; clear ht hf
    refine k_aload_n C dX6_strain_13 0 rfl rfl 14 rfl ?_
    refine k_get C dX6_strain_14 0 rfl (ci := 6) rfl hin_X6_strain_6 0 (by decide) (List.mem_of_getElem? (i := 2) rfl) rfl 17 rfl ?_
    have hM := c_X5_weigh (l := l) (D := D) (cI := cI) (cJ := cJ) (cZ := cZ) qn S_n T_n U_n _ h
    refine k_callV C dX6_strain_17 hM gX6_strain_X5_weigh rfl sg_X5_weigh 5 rfl rfl rfl (Nat.le_of_ble_eq_true rfl) ⟨⟨rfl, rfl⟩, by decide, by decide⟩ ⟨Nat.le_refl 0, Nat.le_refl 0⟩ [1, 2, 3, 4, 5, 6, 7, 8, 9] [0] rfl rfl rfl rfl (by decide) 0 0 ⟨rfl, rfl⟩ 20 rfl (fun v w1 hq17 => ?_)
    obtain ⟨U_n_17, rfl, rfl, h⟩ := hq17
    refine k_perm C [0, 1, 2, 3, 4, 5, 6, 7, 8, 9] [] ((wdX cI cJ cZ qh qn qr qs qp qi qj qw qo ) ++ (wdW cI cJ cZ qn S_n T_n U_n_17)) rfl rfl rfl ?_
    refine k_aload_n C dX6_strain_20 0 rfl rfl 21 rfl ?_
    refine k_get C dX6_strain_21 0 rfl (ci := 6) rfl hin_X6_strain_6 0 (by decide) (List.mem_of_getElem? (i := 2) rfl) rfl 24 rfl ?_
    have hM := c_X5_mostStrained (l := l) (D := D) (cI := cI) (cJ := cJ) (cZ := cZ) qn S_n T_n U_n_17 _ h
    refine k_callV C dX6_strain_24 hM gX6_strain_X5_mostStrained rfl sg_X5_mostStrained 5 rfl rfl rfl (Nat.le_of_ble_eq_true rfl) ⟨⟨rfl, rfl⟩, by decide, by decide⟩ ⟨Nat.le_refl 0, Nat.le_refl 0⟩ [1, 2, 3, 4, 5, 6, 7, 8, 9] [0] rfl rfl rfl rfl (by decide) 0 0 ⟨rfl, rfl⟩ 27 rfl (fun v w1 hq24 => ?_)
    obtain ⟨r24, rfl, rfl, h⟩ := hq24
    refine k_perm C [0, 1, 2, 3, 4, 5, 6, 7, 8, 9] [.int (iI r24)] ((wdX cI cJ cZ qh qn qr qs qp qi qj qw qo ) ++ (wdW cI cJ cZ qn S_n T_n U_n_17)) rfl rfl rfl ?_
    refine k_istore_n C dX6_strain_27 rfl (by decide) [(2, .int (iI r24)), (0, .ref (qh 0)), (1, .int (iI x1))] rfl 28 rfl ?_
    refine k_aload_n C dX6_strain_28 1 rfl rfl 29 rfl ?_
    refine k_get C dX6_strain_29 0 rfl (ci := 6) rfl hin_X6_strain_6 0 (by decide) (List.mem_of_getElem? (i := 2) rfl) rfl 32 rfl ?_
    refine k_iload_n C dX6_strain_32 0 rfl rfl 33 rfl ?_
    have hM := c_X5_strainUpper (l := l) (D := D) (cI := cI) (cJ := cJ) (cZ := cZ) qn S_n T_n U_n_17 r24 _ h
    refine k_callV C dX6_strain_33 hM gX6_strain_X5_strainUpper rfl sg_X5_strainUpper 5 rfl rfl rfl (Nat.le_of_ble_eq_true rfl) ⟨⟨rfl, rfl⟩, by decide, by decide⟩ ⟨Nat.le_refl 0, Nat.le_refl 0⟩ [1, 2, 3, 4, 5, 6, 7, 8, 9] [0] rfl rfl rfl rfl (by decide) 0 0 ⟨rfl, rfl⟩ 36 rfl (fun v w1 hq33 => ?_)
    obtain ⟨r33, rfl, rfl, h⟩ := hq33
    refine k_perm C [0, 1, 2, 3, 4, 5, 6, 7, 8, 9] [.long (lL r33)] ((wdX cI cJ cZ qh qn qr qs qp qi qj qw qo ) ++ (wdW cI cJ cZ qn S_n T_n U_n_17)) rfl rfl rfl ?_
    refine k_aload_n C dX6_strain_36 1 rfl rfl 37 rfl ?_
    refine k_get C dX6_strain_37 0 rfl (ci := 6) rfl hin_X6_strain_6 0 (by decide) (List.mem_of_getElem? (i := 2) rfl) rfl 40 rfl ?_
    refine k_iload_n C dX6_strain_40 0 rfl rfl 41 rfl ?_
    have hM := c_X5_strainLower (l := l) (D := D) (cI := cI) (cJ := cJ) (cZ := cZ) qn S_n T_n U_n_17 r24 _ h
    refine k_callV C dX6_strain_41 hM gX6_strain_X5_strainLower rfl sg_X5_strainLower 5 rfl rfl rfl (Nat.le_of_ble_eq_true rfl) ⟨⟨rfl, rfl⟩, by decide, by decide⟩ ⟨Nat.le_refl 0, Nat.le_refl 0⟩ [1, 2, 3, 4, 5, 6, 7, 8, 9] [0] rfl rfl rfl rfl (by decide) 0 0 ⟨rfl, rfl⟩ 44 rfl (fun v w1 hq41 => ?_)
    obtain ⟨r41, rfl, rfl, h⟩ := hq41
    refine k_perm C [0, 1, 2, 3, 4, 5, 6, 7, 8, 9] [.long (lL r41), .long (lL r33)] ((wdX cI cJ cZ qh qn qr qs qp qi qj qw qo ) ++ (wdW cI cJ cZ qn S_n T_n U_n_17)) rfl rfl rfl ?_
    refine k_ldc2 (v := 10077696) C dX6_strain_44 (List.mem_of_getElem? (i := 3) rfl) (by decide) 47 rfl ?_
    refine k_lmul C dX6_strain_47 48 rfl ?_
    refine k_iload_n C dX6_strain_48 2 rfl rfl 49 rfl ?_
    have hM := c_X6_inLowestTerms (l := l) (D := D) (cI := cI) (cJ := cJ) (cZ := cZ) r33 (r41 * 10077696) x1 _ h
    refine k_callS C dX6_strain_49 hM gX6_strain_X6_inLowestTerms rfl sg_X6_inLowestTerms rfl (Nat.le_of_ble_eq_true rfl) ⟨⟨rfl, rfl⟩, by decide, by decide⟩ ⟨Nat.le_refl 0, Nat.le_refl 0⟩ [] [0, 1, 2, 3, 4, 5, 6, 7, 8, 9] rfl rfl rfl rfl (by decide) 0 0 ⟨rfl, rfl⟩ 52 rfl (fun v w1 hq49 => ?_)
    obtain ⟨r49, rfl, rfl, h⟩ := hq49
    refine k_perm C [0, 1, 2, 3, 4, 5, 6, 7, 8, 9] [.long (lL r49)] ((wdX cI cJ cZ qh qn qr qs qp qi qj qw qo ) ++ (wdW cI cJ cZ qn S_n T_n U_n_17)) rfl rfl rfl ?_
    exact k_lret C dX6_strain_52 ⟨r49, U_n_17, rfl, rfl, h⟩
  · have h := hf hc6; clear ht hf
    refine k_ldc2 (v := (-1000000000000000002)) C dX6_strain_9 (List.mem_of_getElem? (i := 1) rfl) (by decide) 12 rfl ?_
    exact k_lret C dX6_strain_12 ⟨(-1000000000000000002), U_n, rfl, rfl, h⟩

/-! X6_bulges -/
abbrev rm_X6_bulges : Room := { frames := 3, cells := 0, slots := 0, locals := 108 }
theorem sg_X6_bulges : yX6_bulges.cls ≠ "java/lang/invoke/MethodHandle" ∧ yX6_bulges.cls ≠ "java/lang/invoke/VarHandle" ∧ (parseMethodDescriptor yX6_bulges.desc).map (fun d => d.parameters.length) = some 0 := by decide +kernel
theorem hin_X6_bulges_5 : ∀ w ∈ wsX50, w ∈ wsX6_bulges := fun _ h => List.mem_cons_of_mem _ (List.mem_append_right _ h)
theorem hin_X6_bulges_6 : ∀ w ∈ wsX60, w ∈ wsX6_bulges := fun _ h => List.mem_cons_of_mem _ (List.mem_append_left _ (List.mem_append_right _ h))
def rp_X6_bulges (cI cJ cZ : ClassId) (qh : Nat → Nat) (qn : Nat → Nat) (qr : Nat → Nat) (qs : Nat → Nat) (qp : Nat → Nat) (qi : Nat → Nat) (qj : Nat → Nat) (qw : Nat → Nat) (qo : Nat → Nat) (S_n : gWS) (T_n : gWT) (Q : Int → gWU → Prop) : Option Value → va_W → Prop := fun v w1 => ∃ (r : Int) (U_n : gWU), v = some (.int (iI r)) ∧ w1 = (wdX cI cJ cZ qh qn qr qs qp qi qj qw qo ) ++ (wdW cI cJ cZ qn S_n T_n U_n) ∧ Q r U_n
def wp_X6_bulges_11 (S_n : gWS) (T_n : gWT) (K_75 : Int → gWU → Prop)  (Q : Int → gWU → Prop) : Nat → Int → Int → gWU → Prop
  | 0, _, _, _ => False
  | n11 + 1, x1, x2, U_n =>
    rI x2 ∧ ((10 ≤ x2 → K_75 x1 U_n) ∧ (¬ (10 ≤ x2) → wp_X5_isLaid T_n x2 (fun (r22 : Int) => ((r22 = 0 → wp_X6_bulges_11 S_n T_n K_75 Q n11 x1 (x2 + 1) U_n) ∧ (¬ (r22 = 0) → wp_X6_at_ 10 U_n x2 (fun (r39 : Int) => wp_X6_at 10 S_n.2.2.2.2 x2 (fun (r54 : Int) => rI r54 ∧ rL (4 * r39) ∧ rL (30233088 * r54) ∧ (((4 * r39) ≤ (30233088 * r54) → wp_X6_bulges_11 S_n T_n K_75 Q n11 x1 (x2 + 1) U_n) ∧ (¬ ((4 * r39) ≤ (30233088 * r54)) → wp_X6_bulges_11 S_n T_n K_75 Q n11 (ior x1 (ishl 1 x2)) (x2 + 1) U_n)))))))))
def wp_X6_bulges (S_n : gWS) (T_n : gWT) (U_n : gWU) (Q : Int → gWU → Prop) : Prop :=
    wp_X5_weigh S_n T_n U_n (fun (U_n_4 : gWU) => ∃ m11, wp_X6_bulges_11 S_n T_n (fun (x1 : Int) (U_n : gWU) => Q x1 U_n) Q m11 0 0 U_n_4)
set_option maxHeartbeats 4000000 in
set_option maxRecDepth 20000 in
theorem w_X6_bulges_11 {l : Launch} {D : va_G} {cI cJ cZ : ClassId} {A : Nat → Prop} {K : KT} {qh : Nat → Nat} {qn : Nat → Nat} {qr : Nat → Nat} {qs : Nat → Nat} {qp : Nat → Nat} {qi : Nat → Nat} {qj : Nat → Nat} {qw : Nat → Nat} {qo : Nat → Nat} {S_n : gWS} {T_n : gWT} {Q : Int → gWU → Prop} {K_75 : Int → gWU → Prop} (C : KC cX6_bulges yX6_bulges.cls wsX6_bulges rm_X6_bulges 3 D (kT cI cJ cZ) A l false (rp_X6_bulges cI cJ cZ qh qn qr qs qp qi qj qw qo S_n T_n Q) 0 0 K) : ∀ (n : Nat) (x1 : Int) (x2 : Int) (U_n : gWU), wp_X6_bulges_11 S_n T_n K_75 Q n x1 x2 U_n → (∀ (x1 : Int) (U_n : gWU), K_75 x1 U_n → K 0 0 75 [(1, .int (iI x1))] [] ((wdX cI cJ cZ qh qn qr qs qp qi qj qw qo ) ++ (wdW cI cJ cZ qn S_n T_n U_n))) → K 0 0 11 [(0, .ref (qh 0)), (1, .int (iI x1)), (2, .int (iI x2))] [] ((wdX cI cJ cZ qh qn qr qs qp qi qj qw qo ) ++ (wdW cI cJ cZ qn S_n T_n U_n)) := by
  intro n
  induction n with
  | zero => intro x1 x2 U_n h; exact h.elim
  | succ n ih =>
    intro x1 x2 U_n h hK_75
    refine k_iload_n C dX6_bulges_11 2 rfl rfl 12 rfl ?_
    refine k_bipush C dX6_bulges_12 (by decide) 14 rfl ?_
    obtain ⟨hr14a, h⟩ := h
    obtain ⟨ht, hf⟩ := h
    refine k_icmp_ge C dX6_bulges_14 ⟨hr14a, (by decide)⟩ 75 17 (by decide) rfl (fun hc14 => ?_) (fun hc14 => ?_)
    · have h := ht hc14; clear ht hf
      refine k_lv C [1] [(1, .int (iI x1))] rfl ?_
      exact hK_75 x1 U_n h
    · have h := hf hc14; clear ht hf
      refine k_aload_n C dX6_bulges_17 0 rfl rfl 18 rfl ?_
      refine k_get C dX6_bulges_18 0 rfl (ci := 6) rfl hin_X6_bulges_6 0 (by decide) (List.mem_of_getElem? (i := 1) rfl) rfl 21 rfl ?_
      refine k_iload_n C dX6_bulges_21 2 rfl rfl 22 rfl ?_
      have hM := c_X5_isLaid (l := l) (D := D) (cI := cI) (cJ := cJ) (cZ := cZ) qn S_n T_n U_n x2 _ h
      refine k_callV C dX6_bulges_22 hM gX6_bulges_X5_isLaid rfl sg_X5_isLaid 5 rfl rfl rfl (Nat.le_of_ble_eq_true rfl) ⟨⟨rfl, rfl⟩, by decide, by decide⟩ ⟨Nat.le_refl 0, Nat.le_refl 0⟩ [1, 2, 3, 4, 5, 6, 7, 8, 9] [0] rfl rfl rfl rfl (by decide) 0 0 ⟨rfl, rfl⟩ 25 rfl (fun v w1 hq22 => ?_)
      obtain ⟨r22, rfl, rfl, hb22, h⟩ := hq22
      refine k_perm C [0, 1, 2, 3, 4, 5, 6, 7, 8, 9] [.int (iI r22)] ((wdX cI cJ cZ qh qn qr qs qp qi qj qw qo ) ++ (wdW cI cJ cZ qn S_n T_n U_n)) rfl rfl rfl ?_
      obtain ⟨ht, hf⟩ := h
      refine k_if_eq C dX6_bulges_25 (by rcases hb22 with rfl | rfl <;> decide) 69 28 (by decide) rfl (fun hc25 => ?_) (fun hc25 => ?_)
      · have h := ht hc25; clear ht hf
        refine k_iinc (j := 2) C dX6_bulges_69 rfl (by decide) [(2, .int (iI (x2 + 1))), (0, .ref (qh 0)), (1, .int (iI x1))] rfl 72 rfl ?_
        refine k_goto C dX6_bulges_72 11 (by decide) ?_
        refine k_lv C [1, 2, 0] [(0, .ref (qh 0)), (1, .int (iI x1)), (2, .int (iI (x2 + 1)))] rfl ?_
        exact ih x1 (x2 + 1) U_n h hK_75
      · have h := hf hc25; clear ht hf
        refine k_ldc2 (v := 4) C dX6_bulges_28 (List.mem_of_getElem? (i := 2) rfl) (by decide) 31 rfl ?_
        refine k_aload_n C dX6_bulges_31 0 rfl rfl 32 rfl ?_
        refine k_get C dX6_bulges_32 0 rfl (ci := 6) rfl hin_X6_bulges_6 0 (by decide) (List.mem_of_getElem? (i := 1) rfl) rfl 35 rfl ?_
        refine k_getN C dX6_bulges_35 1 rfl (ci := 5) rfl hin_X6_bulges_5 10 (by decide) (List.mem_of_getElem? (i := 11) rfl) rfl 38 rfl ?_
        refine k_iload_n C dX6_bulges_38 2 rfl rfl 39 rfl ?_
        have hM := c_X6_at_ (l := l) (D := D) (cI := cI) (cJ := cJ) (cZ := cZ) (qn 8) 10 (by decide) U_n x2 _ h
        refine k_callS C dX6_bulges_39 hM gX6_bulges_X6_at_ rfl sg_X6_at_ rfl (Nat.le_of_ble_eq_true rfl) ⟨⟨rfl, rfl⟩, by decide, by decide⟩ ⟨Nat.le_refl 0, Nat.le_refl 0⟩ [9] [0, 1, 2, 3, 4, 5, 6, 7, 8] rfl rfl rfl rfl (by decide) 0 0 ⟨rfl, rfl⟩ 42 rfl (fun v w1 hq39 => ?_)
        obtain ⟨r39, rfl, rfl, h⟩ := hq39
        refine k_perm C [0, 1, 2, 3, 4, 5, 6, 7, 8, 9] [.long (lL r39), .long (lL 4)] ((wdX cI cJ cZ qh qn qr qs qp qi qj qw qo ) ++ (wdW cI cJ cZ qn S_n T_n U_n)) rfl rfl rfl ?_
        refine k_lmul C dX6_bulges_42 43 rfl ?_
        refine k_ldc2 (v := 30233088) C dX6_bulges_43 (List.mem_of_getElem? (i := 3) rfl) (by decide) 46 rfl ?_
        refine k_aload_n C dX6_bulges_46 0 rfl rfl 47 rfl ?_
        refine k_get C dX6_bulges_47 0 rfl (ci := 6) rfl hin_X6_bulges_6 0 (by decide) (List.mem_of_getElem? (i := 1) rfl) rfl 50 rfl ?_
        refine k_getN C dX6_bulges_50 1 rfl (ci := 5) rfl hin_X6_bulges_5 5 (by decide) (List.mem_of_getElem? (i := 6) rfl) rfl 53 rfl ?_
        refine k_iload_n C dX6_bulges_53 2 rfl rfl 54 rfl ?_
        have hM := c_X6_at (l := l) (D := D) (cI := cI) (cJ := cJ) (cZ := cZ) (qn 3) 10 (by decide) S_n.2.2.2.2 x2 _ h
        refine k_callS C dX6_bulges_54 hM gX6_bulges_X6_at rfl sg_X6_at rfl (Nat.le_of_ble_eq_true rfl) ⟨⟨rfl, rfl⟩, by decide, by decide⟩ ⟨Nat.le_refl 0, Nat.le_refl 0⟩ [4] [0, 1, 2, 3, 5, 6, 7, 8, 9] rfl rfl rfl rfl (by decide) 0 0 ⟨rfl, rfl⟩ 57 rfl (fun v w1 hq54 => ?_)
        obtain ⟨r54, rfl, rfl, h⟩ := hq54
        refine k_perm C [0, 1, 2, 3, 9, 4, 5, 6, 7, 8] [.int (iI r54), .long (lL 30233088), .long (lL (4 * r39))] ((wdX cI cJ cZ qh qn qr qs qp qi qj qw qo ) ++ (wdW cI cJ cZ qn S_n T_n U_n)) rfl rfl rfl ?_
        obtain ⟨hr57a, h⟩ := h
        refine k_i2l C dX6_bulges_57 hr57a 58 rfl ?_
        refine k_lmul C dX6_bulges_58 59 rfl ?_
        obtain ⟨hr59a, hr59b, h⟩ := h
        obtain ⟨ht, hf⟩ := h
        refine k_lcmp_le C dX6_bulges_59 dX6_bulges_60 ⟨hr59a, hr59b⟩ 69 63 (by decide) rfl (fun hc59 => ?_) (fun hc59 => ?_)
        · have h := ht hc59; clear ht hf
          refine k_iinc (j := 2) C dX6_bulges_69 rfl (by decide) [(2, .int (iI (x2 + 1))), (0, .ref (qh 0)), (1, .int (iI x1))] rfl 72 rfl ?_
          refine k_goto C dX6_bulges_72 11 (by decide) ?_
          refine k_lv C [1, 2, 0] [(0, .ref (qh 0)), (1, .int (iI x1)), (2, .int (iI (x2 + 1)))] rfl ?_
          exact ih x1 (x2 + 1) U_n h hK_75
        · have h := hf hc59; clear ht hf
          refine k_iload_n C dX6_bulges_63 1 rfl rfl 64 rfl ?_
          refine k_iconst C dX6_bulges_64 65 rfl ?_
          refine k_iload_n C dX6_bulges_65 2 rfl rfl 66 rfl ?_
          refine k_ishl C dX6_bulges_66 67 rfl ?_
          refine k_ior C dX6_bulges_67 68 rfl ?_
          refine k_istore_n C dX6_bulges_68 rfl (by decide) [(1, .int (iI (ior x1 (ishl 1 x2)))), (0, .ref (qh 0)), (2, .int (iI x2))] rfl 69 rfl ?_
          refine k_iinc (j := 2) C dX6_bulges_69 rfl (by decide) [(2, .int (iI (x2 + 1))), (1, .int (iI (ior x1 (ishl 1 x2)))), (0, .ref (qh 0))] rfl 72 rfl ?_
          refine k_goto C dX6_bulges_72 11 (by decide) ?_
          refine k_lv C [2, 1, 0] [(0, .ref (qh 0)), (1, .int (iI (ior x1 (ishl 1 x2)))), (2, .int (iI (x2 + 1)))] rfl ?_
          exact ih (ior x1 (ishl 1 x2)) (x2 + 1) U_n h hK_75
set_option maxHeartbeats 4000000 in
set_option maxRecDepth 20000 in
theorem c_X6_bulges {l : Launch} {D : va_G} {cI cJ cZ : ClassId} (qh : Nat → Nat) (qn : Nat → Nat) (qr : Nat → Nat) (qs : Nat → Nat) (qp : Nat → Nat) (qi : Nat → Nat) (qj : Nat → Nat) (qw : Nat → Nat) (qo : Nat → Nat) (S_n : gWS) (T_n : gWT) (U_n : gWU) (Q : Int → gWU → Prop) (h : wp_X6_bulges S_n T_n U_n Q) : KM l D (kT cI cJ cZ) 0 0 yX6_bulges wsX6_bulges rm_X6_bulges [.ref (qh 0)] ((wdX cI cJ cZ qh qn qr qs qp qi qj qw qo ) ++ (wdW cI cJ cZ qn S_n T_n U_n)) (rp_X6_bulges cI cJ cZ qh qn qr qs qp qi qj qw qo S_n T_n Q) := by
  refine KM_intro (lv := [(0, .ref (qh 0))]) false rfl (by decide) (Nat.le_of_ble_eq_true rfl) rfl (fun h => absurd h (by decide)) (fun v ws hq => by obtain ⟨r, U_n, rfl, rfl, _⟩ := hq; exact Or.inr (Or.inl ⟨rfl, _, rfl⟩)) (fun A K C => ?_)
  refine k_aload_n C dX6_bulges_0 0 rfl rfl 1 rfl ?_
  refine k_get C dX6_bulges_1 0 rfl (ci := 6) rfl hin_X6_bulges_6 0 (by decide) (List.mem_of_getElem? (i := 1) rfl) rfl 4 rfl ?_
  have hM := c_X5_weigh (l := l) (D := D) (cI := cI) (cJ := cJ) (cZ := cZ) qn S_n T_n U_n _ h
  refine k_callV C dX6_bulges_4 hM gX6_bulges_X5_weigh rfl sg_X5_weigh 5 rfl rfl rfl (Nat.le_of_ble_eq_true rfl) ⟨⟨rfl, rfl⟩, by decide, by decide⟩ ⟨Nat.le_refl 0, Nat.le_refl 0⟩ [1, 2, 3, 4, 5, 6, 7, 8, 9] [0] rfl rfl rfl rfl (by decide) 0 0 ⟨rfl, rfl⟩ 7 rfl (fun v w1 hq4 => ?_)
  obtain ⟨U_n_4, rfl, rfl, h⟩ := hq4
  refine k_perm C [0, 1, 2, 3, 4, 5, 6, 7, 8, 9] [] ((wdX cI cJ cZ qh qn qr qs qp qi qj qw qo ) ++ (wdW cI cJ cZ qn S_n T_n U_n_4)) rfl rfl rfl ?_
  refine k_iconst C dX6_bulges_7 8 rfl ?_
  refine k_istore_n C dX6_bulges_8 rfl (by decide) [(1, .int (iI 0)), (0, .ref (qh 0))] rfl 9 rfl ?_
  refine k_iconst C dX6_bulges_9 10 rfl ?_
  refine k_istore_n C dX6_bulges_10 rfl (by decide) [(2, .int (iI 0)), (1, .int (iI 0)), (0, .ref (qh 0))] rfl 11 rfl ?_
  refine k_lv C [2, 1, 0] [(0, .ref (qh 0)), (1, .int (iI 0)), (2, .int (iI 0))] rfl ?_
  obtain ⟨m11, h⟩ := h
  refine w_X6_bulges_11 C m11 0 0 U_n_4 h (fun x1 U_n h => ?_)
  · refine k_iload_n C dX6_bulges_75 0 rfl rfl 76 rfl ?_
    exact k_iret C dX6_bulges_76 ⟨x1, U_n, rfl, rfl, h⟩

/-! X6_touch -/
abbrev rm_X6_touch : Room := { frames := 3, cells := 0, slots := 0, locals := 91 }
theorem sg_X6_touch : yX6_touch.cls ≠ "java/lang/invoke/MethodHandle" ∧ yX6_touch.cls ≠ "java/lang/invoke/VarHandle" ∧ (parseMethodDescriptor yX6_touch.desc).map (fun d => d.parameters.length) = some 1 := by decide +kernel
theorem hin_X6_touch_6 : ∀ w ∈ wsX60, w ∈ wsX6_touch := fun _ h => List.mem_cons_of_mem _ (List.mem_append_left _ (List.mem_append_right _ h))
def rp_X6_touch (cI cJ cZ : ClassId) (qh : Nat → Nat) (qn : Nat → Nat) (qr : Nat → Nat) (qs : Nat → Nat) (qp : Nat → Nat) (qi : Nat → Nat) (qj : Nat → Nat) (qw : Nat → Nat) (qo : Nat → Nat) (S_n : gWS) (T_n : gWT) (U_n : gWU) (Q : Int → Prop) : Option Value → va_W → Prop := fun v w1 => ∃ (r : Int), v = some (.int (iI r)) ∧ w1 = (wdX cI cJ cZ qh qn qr qs qp qi qj qw qo ) ++ (wdW cI cJ cZ qn S_n T_n U_n) ∧ Q r
def wp_X6_touch_15 (S_n : gWS) (T_n : gWT) (K_40 : Int → Int → Prop) (K_57 : Int → Int → Int → Prop)  (Q : Int → Prop) : Nat → Int → Int → Int → Int → Prop
  | 0, _, _, _, _ => False
  | n15 + 1, x1, x2, x3, x4 =>
    rI x4 ∧ ((10 ≤ x4 → K_57 x1 x2 x3) ∧ (¬ (10 ≤ x4) → wp_X5_areSideBySide S_n T_n x3 x4 (fun (r29 : Int) => ((r29 = 0 → wp_X6_touch_15 S_n T_n K_40 K_57 Q n15 x1 x2 x3 (x4 + 1)) ∧ (¬ (r29 = 0) → rI x2 ∧ rI x1 ∧ ((¬ x2 = x1 → wp_X6_touch_15 S_n T_n K_40 K_57 Q n15 x1 (x2 + 1) x3 (x4 + 1)) ∧ (¬ (¬ x2 = x1) → K_40 x3 x4)))))))
def wp_X6_touch_4 (S_n : gWS) (T_n : gWT) (K_40 : Int → Int → Prop) (K_63 : Int → Int → Prop)  (Q : Int → Prop) : Nat → Int → Int → Int → Prop
  | 0, _, _, _ => False
  | n4 + 1, x1, x2, x3 =>
    rI x3 ∧ ((10 ≤ x3 → K_63 x1 x2) ∧ (¬ (10 ≤ x3) → ∃ m15, wp_X6_touch_15 S_n T_n K_40 (fun (x1 : Int) (x2 : Int) (x3 : Int) => wp_X6_touch_4 S_n T_n K_40 K_63 Q n4 x1 x2 (x3 + 1)) Q m15 x1 x2 x3 (x3 + 1)))
def wp_X6_touch (S_n : gWS) (T_n : gWT) (x1 : Int) (Q : Int → Prop) : Prop :=
    ∃ m4, wp_X6_touch_4 S_n T_n (fun (x3 : Int) (x4 : Int) => Q ((10 * x3) + x4)) (fun (x1 : Int) (x2 : Int) => rI x1 ∧ ((¬ x1 = (-1) → Q (-6)) ∧ (¬ (¬ x1 = (-1)) → Q x2))) Q m4 x1 0 0
set_option maxHeartbeats 4000000 in
set_option maxRecDepth 20000 in
theorem w_X6_touch_15 {l : Launch} {D : va_G} {cI cJ cZ : ClassId} {A : Nat → Prop} {K : KT} {qh : Nat → Nat} {qn : Nat → Nat} {qr : Nat → Nat} {qs : Nat → Nat} {qp : Nat → Nat} {qi : Nat → Nat} {qj : Nat → Nat} {qw : Nat → Nat} {qo : Nat → Nat} {S_n : gWS} {T_n : gWT} {U_n : gWU} {Q : Int → Prop} {K_40 : Int → Int → Prop} {K_57 : Int → Int → Int → Prop} (C : KC cX6_touch yX6_touch.cls wsX6_touch rm_X6_touch 5 D (kT cI cJ cZ) A l false (rp_X6_touch cI cJ cZ qh qn qr qs qp qi qj qw qo S_n T_n U_n Q) 0 0 K) : ∀ (n : Nat) (x1 : Int) (x2 : Int) (x3 : Int) (x4 : Int), wp_X6_touch_15 S_n T_n K_40 K_57 Q n x1 x2 x3 x4 → (∀ (x3 : Int) (x4 : Int), K_40 x3 x4 → K 0 0 40 [(3, .int (iI x3)), (4, .int (iI x4))] [] ((wdX cI cJ cZ qh qn qr qs qp qi qj qw qo ) ++ (wdW cI cJ cZ qn S_n T_n U_n))) → (∀ (x1 : Int) (x2 : Int) (x3 : Int), K_57 x1 x2 x3 → K 0 0 57 [(0, .ref (qh 0)), (1, .int (iI x1)), (2, .int (iI x2)), (3, .int (iI x3))] [] ((wdX cI cJ cZ qh qn qr qs qp qi qj qw qo ) ++ (wdW cI cJ cZ qn S_n T_n U_n))) → K 0 0 15 [(0, .ref (qh 0)), (1, .int (iI x1)), (2, .int (iI x2)), (3, .int (iI x3)), (4, .int (iI x4))] [] ((wdX cI cJ cZ qh qn qr qs qp qi qj qw qo ) ++ (wdW cI cJ cZ qn S_n T_n U_n)) := by
  intro n
  induction n with
  | zero => intro x1 x2 x3 x4 h; exact h.elim
  | succ n ih =>
    intro x1 x2 x3 x4 h hK_40 hK_57
    refine k_iload C dX6_touch_15 4 rfl 17 rfl ?_
    refine k_bipush C dX6_touch_17 (by decide) 19 rfl ?_
    obtain ⟨hr19a, h⟩ := h
    obtain ⟨ht, hf⟩ := h
    refine k_icmp_ge C dX6_touch_19 ⟨hr19a, (by decide)⟩ 57 22 (by decide) rfl (fun hc19 => ?_) (fun hc19 => ?_)
    · have h := ht hc19; clear ht hf
      refine k_lv C [0, 1, 2, 3] [(0, .ref (qh 0)), (1, .int (iI x1)), (2, .int (iI x2)), (3, .int (iI x3))] rfl ?_
      exact hK_57 x1 x2 x3 h
    · have h := hf hc19; clear ht hf
      refine k_aload_n C dX6_touch_22 0 rfl rfl 23 rfl ?_
      refine k_get C dX6_touch_23 0 rfl (ci := 6) rfl hin_X6_touch_6 0 (by decide) (List.mem_of_getElem? (i := 1) rfl) rfl 26 rfl ?_
      refine k_iload_n C dX6_touch_26 3 rfl rfl 27 rfl ?_
      refine k_iload C dX6_touch_27 4 rfl 29 rfl ?_
      have hM := c_X5_areSideBySide (l := l) (D := D) (cI := cI) (cJ := cJ) (cZ := cZ) qn S_n T_n U_n x3 x4 _ h
      refine k_callV C dX6_touch_29 hM gX6_touch_X5_areSideBySide rfl sg_X5_areSideBySide 5 rfl rfl rfl (Nat.le_of_ble_eq_true rfl) ⟨⟨rfl, rfl⟩, by decide, by decide⟩ ⟨Nat.le_refl 0, Nat.le_refl 0⟩ [1, 2, 3, 4, 5, 6, 7, 8, 9] [0] rfl rfl rfl rfl (by decide) 0 0 ⟨rfl, rfl⟩ 32 rfl (fun v w1 hq29 => ?_)
      obtain ⟨r29, rfl, rfl, hb29, h⟩ := hq29
      refine k_perm C [0, 1, 2, 3, 4, 5, 6, 7, 8, 9] [.int (iI r29)] ((wdX cI cJ cZ qh qn qr qs qp qi qj qw qo ) ++ (wdW cI cJ cZ qn S_n T_n U_n)) rfl rfl rfl ?_
      obtain ⟨ht, hf⟩ := h
      refine k_if_eq C dX6_touch_32 (by rcases hb29 with rfl | rfl <;> decide) 51 35 (by decide) rfl (fun hc32 => ?_) (fun hc32 => ?_)
      · have h := ht hc32; clear ht hf
        refine k_iinc (j := 4) C dX6_touch_51 rfl (by decide) [(4, .int (iI (x4 + 1))), (0, .ref (qh 0)), (1, .int (iI x1)), (2, .int (iI x2)), (3, .int (iI x3))] rfl 54 rfl ?_
        refine k_goto C dX6_touch_54 15 (by decide) ?_
        refine k_lv C [1, 2, 3, 4, 0] [(0, .ref (qh 0)), (1, .int (iI x1)), (2, .int (iI x2)), (3, .int (iI x3)), (4, .int (iI (x4 + 1)))] rfl ?_
        exact ih x1 x2 x3 (x4 + 1) h hK_40 hK_57
      · have h := hf hc32; clear ht hf
        refine k_iload_n C dX6_touch_35 2 rfl rfl 36 rfl ?_
        refine k_iload_n C dX6_touch_36 1 rfl rfl 37 rfl ?_
        obtain ⟨hr37a, hr37b, h⟩ := h
        obtain ⟨ht, hf⟩ := h
        refine k_icmp_ne C dX6_touch_37 ⟨hr37a, hr37b⟩ 48 40 (by decide) rfl (fun hc37 => ?_) (fun hc37 => ?_)
        · have h := ht hc37; clear ht hf
          refine k_iinc (j := 2) C dX6_touch_48 rfl (by decide) [(2, .int (iI (x2 + 1))), (0, .ref (qh 0)), (1, .int (iI x1)), (3, .int (iI x3)), (4, .int (iI x4))] rfl 51 rfl ?_
          refine k_iinc (j := 4) C dX6_touch_51 rfl (by decide) [(4, .int (iI (x4 + 1))), (2, .int (iI (x2 + 1))), (0, .ref (qh 0)), (1, .int (iI x1)), (3, .int (iI x3))] rfl 54 rfl ?_
          refine k_goto C dX6_touch_54 15 (by decide) ?_
          refine k_lv C [2, 3, 1, 4, 0] [(0, .ref (qh 0)), (1, .int (iI x1)), (2, .int (iI (x2 + 1))), (3, .int (iI x3)), (4, .int (iI (x4 + 1)))] rfl ?_
          exact ih x1 (x2 + 1) x3 (x4 + 1) h hK_40 hK_57
        · have h := hf hc37; clear ht hf
          refine k_lv C [3, 4] [(3, .int (iI x3)), (4, .int (iI x4))] rfl ?_
          exact hK_40 x3 x4 h
set_option maxHeartbeats 4000000 in
set_option maxRecDepth 20000 in
theorem w_X6_touch_4 {l : Launch} {D : va_G} {cI cJ cZ : ClassId} {A : Nat → Prop} {K : KT} {qh : Nat → Nat} {qn : Nat → Nat} {qr : Nat → Nat} {qs : Nat → Nat} {qp : Nat → Nat} {qi : Nat → Nat} {qj : Nat → Nat} {qw : Nat → Nat} {qo : Nat → Nat} {S_n : gWS} {T_n : gWT} {U_n : gWU} {Q : Int → Prop} {K_40 : Int → Int → Prop} {K_63 : Int → Int → Prop} (C : KC cX6_touch yX6_touch.cls wsX6_touch rm_X6_touch 5 D (kT cI cJ cZ) A l false (rp_X6_touch cI cJ cZ qh qn qr qs qp qi qj qw qo S_n T_n U_n Q) 0 0 K) : ∀ (n : Nat) (x1 : Int) (x2 : Int) (x3 : Int), wp_X6_touch_4 S_n T_n K_40 K_63 Q n x1 x2 x3 → (∀ (x3 : Int) (x4 : Int), K_40 x3 x4 → K 0 0 40 [(3, .int (iI x3)), (4, .int (iI x4))] [] ((wdX cI cJ cZ qh qn qr qs qp qi qj qw qo ) ++ (wdW cI cJ cZ qn S_n T_n U_n))) → (∀ (x1 : Int) (x2 : Int), K_63 x1 x2 → K 0 0 63 [(1, .int (iI x1)), (2, .int (iI x2))] [] ((wdX cI cJ cZ qh qn qr qs qp qi qj qw qo ) ++ (wdW cI cJ cZ qn S_n T_n U_n))) → K 0 0 4 [(0, .ref (qh 0)), (1, .int (iI x1)), (2, .int (iI x2)), (3, .int (iI x3))] [] ((wdX cI cJ cZ qh qn qr qs qp qi qj qw qo ) ++ (wdW cI cJ cZ qn S_n T_n U_n)) := by
  intro n
  induction n with
  | zero => intro x1 x2 x3 h; exact h.elim
  | succ n ih =>
    intro x1 x2 x3 h hK_40 hK_63
    refine k_iload_n C dX6_touch_4 3 rfl rfl 5 rfl ?_
    refine k_bipush C dX6_touch_5 (by decide) 7 rfl ?_
    obtain ⟨hr7a, h⟩ := h
    obtain ⟨ht, hf⟩ := h
    refine k_icmp_ge C dX6_touch_7 ⟨hr7a, (by decide)⟩ 63 10 (by decide) rfl (fun hc7 => ?_) (fun hc7 => ?_)
    · have h := ht hc7; clear ht hf
      refine k_lv C [1, 2] [(1, .int (iI x1)), (2, .int (iI x2))] rfl ?_
      exact hK_63 x1 x2 h
    · have h := hf hc7; clear ht hf
      refine k_iload_n C dX6_touch_10 3 rfl rfl 11 rfl ?_
      refine k_iconst C dX6_touch_11 12 rfl ?_
      refine k_iadd C dX6_touch_12 13 rfl ?_
      refine k_istore C dX6_touch_13 (by decide) [(4, .int (iI (x3 + 1))), (0, .ref (qh 0)), (1, .int (iI x1)), (2, .int (iI x2)), (3, .int (iI x3))] rfl 15 rfl ?_
      refine k_lv C [1, 2, 3, 4, 0] [(0, .ref (qh 0)), (1, .int (iI x1)), (2, .int (iI x2)), (3, .int (iI x3)), (4, .int (iI (x3 + 1)))] rfl ?_
      obtain ⟨m15, h⟩ := h
      refine w_X6_touch_15 C m15 x1 x2 x3 (x3 + 1) h hK_40 (fun x1 x2 x3 h => ?_)
      · refine k_iinc (j := 3) C dX6_touch_57 rfl (by decide) [(3, .int (iI (x3 + 1))), (0, .ref (qh 0)), (1, .int (iI x1)), (2, .int (iI x2))] rfl 60 rfl ?_
        refine k_goto C dX6_touch_60 4 (by decide) ?_
        refine k_lv C [1, 2, 3, 0] [(0, .ref (qh 0)), (1, .int (iI x1)), (2, .int (iI x2)), (3, .int (iI (x3 + 1)))] rfl ?_
        exact ih x1 x2 (x3 + 1) h hK_40 hK_63
set_option maxHeartbeats 4000000 in
set_option maxRecDepth 20000 in
theorem c_X6_touch {l : Launch} {D : va_G} {cI cJ cZ : ClassId} (qh : Nat → Nat) (qn : Nat → Nat) (qr : Nat → Nat) (qs : Nat → Nat) (qp : Nat → Nat) (qi : Nat → Nat) (qj : Nat → Nat) (qw : Nat → Nat) (qo : Nat → Nat) (S_n : gWS) (T_n : gWT) (U_n : gWU) (x1 : Int) (Q : Int → Prop) (h : wp_X6_touch S_n T_n x1 Q) : KM l D (kT cI cJ cZ) 0 0 yX6_touch wsX6_touch rm_X6_touch [.ref (qh 0), .int (iI x1)] ((wdX cI cJ cZ qh qn qr qs qp qi qj qw qo ) ++ (wdW cI cJ cZ qn S_n T_n U_n)) (rp_X6_touch cI cJ cZ qh qn qr qs qp qi qj qw qo S_n T_n U_n Q) := by
  refine KM_intro (lv := [(0, .ref (qh 0)), (1, .int (iI x1))]) false rfl (by decide) (Nat.le_of_ble_eq_true rfl) rfl (fun h => absurd h (by decide)) (fun v ws hq => by obtain ⟨r, rfl, rfl, _⟩ := hq; exact Or.inr (Or.inl ⟨rfl, _, rfl⟩)) (fun A K C => ?_)
  refine k_iconst C dX6_touch_0 1 rfl ?_
  refine k_istore_n C dX6_touch_1 rfl (by decide) [(2, .int (iI 0)), (0, .ref (qh 0)), (1, .int (iI x1))] rfl 2 rfl ?_
  refine k_iconst C dX6_touch_2 3 rfl ?_
  refine k_istore_n C dX6_touch_3 rfl (by decide) [(3, .int (iI 0)), (2, .int (iI 0)), (0, .ref (qh 0)), (1, .int (iI x1))] rfl 4 rfl ?_
  refine k_lv C [2, 3, 1, 0] [(0, .ref (qh 0)), (1, .int (iI x1)), (2, .int (iI 0)), (3, .int (iI 0))] rfl ?_
  obtain ⟨m4, h⟩ := h
  refine w_X6_touch_4 C m4 x1 0 0 h (fun x3 x4 h => ?_) (fun x1 x2 h => ?_)
  · refine k_bipush C dX6_touch_40 (by decide) 42 rfl ?_
    refine k_iload_n C dX6_touch_42 0 rfl rfl 43 rfl ?_
    refine k_imul C dX6_touch_43 44 rfl ?_
    refine k_iload C dX6_touch_44 1 rfl 46 rfl ?_
    refine k_iadd C dX6_touch_46 47 rfl ?_
    exact k_iret C dX6_touch_47 ⟨(10 * x3) + x4, rfl, rfl, h⟩
  · refine k_iload_n C dX6_touch_63 0 rfl rfl 64 rfl ?_
    refine k_iconst C dX6_touch_64 65 rfl ?_
    obtain ⟨hr65a, h⟩ := h
    obtain ⟨ht, hf⟩ := h
    refine k_icmp_ne C dX6_touch_65 ⟨hr65a, (by decide)⟩ 72 68 (by decide) rfl (fun hc65 => ?_) (fun hc65 => ?_)
    · have h := ht hc65; clear ht hf
      refine k_bipush C dX6_touch_72 (by decide) 74 rfl ?_
      exact k_iret C dX6_touch_74 ⟨(-6), rfl, rfl, h⟩
    · have h := hf hc65; clear ht hf
      refine k_iload_n C dX6_touch_68 1 rfl rfl 69 rfl ?_
      refine k_goto C dX6_touch_69 74 (by decide) ?_
      exact k_iret C dX6_touch_74 ⟨x2, rfl, rfl, h⟩
