def gI (cI cJ cZ : ClassId) (qh qn qr qs qp qi qj qw qo qiw qis qjw qjs : Nat → Nat) (S_n : gWS) (T_n : gWT) (U_n : gWU) (G_s : gGG) (I_i : gII) (S_iw : gWS) (T_iw : gWT) (U_iw : gWU) (G_is : gGG) (I_j : gII) (S_jw : gWS) (T_jw : gWT) (U_jw : gWU) (G_js : gGG) : Nat → va_W := fun i => match i with
  | 0 => wdX cI cJ cZ qh qn qr qs qp qi qj qw qo
  | 1 => wdW cI cJ cZ qn S_n T_n U_n
  | 2 => wdG cI cJ cZ qs G_s
  | 3 => wdI cI cJ cZ qi qiw qis I_i
  | 4 => wdW cI cJ cZ qiw S_iw T_iw U_iw
  | 5 => wdG cI cJ cZ qis G_is
  | 6 => wdI cI cJ cZ qj qjw qjs I_j
  | 7 => wdW cI cJ cZ qjw S_jw T_jw U_jw
  | _ => wdG cI cJ cZ qjs G_js
theorem gI_0 (cI cJ cZ : ClassId) (qh qn qr qs qp qi qj qw qo qiw qis qjw qjs : Nat → Nat) (S_n : gWS) (T_n : gWT) (U_n : gWU) (G_s : gGG) (I_i : gII) (S_iw : gWS) (T_iw : gWT) (U_iw : gWU) (G_is : gGG) (I_j : gII) (S_jw : gWS) (T_jw : gWT) (U_jw : gWU) (G_js : gGG) : gI cI cJ cZ qh qn qr qs qp qi qj qw qo qiw qis qjw qjs S_n T_n U_n G_s I_i S_iw T_iw U_iw G_is I_j S_jw T_jw U_jw G_js 0 = wdX cI cJ cZ qh qn qr qs qp qi qj qw qo := rfl
theorem gI_1 (cI cJ cZ : ClassId) (qh qn qr qs qp qi qj qw qo qiw qis qjw qjs : Nat → Nat) (S_n : gWS) (T_n : gWT) (U_n : gWU) (G_s : gGG) (I_i : gII) (S_iw : gWS) (T_iw : gWT) (U_iw : gWU) (G_is : gGG) (I_j : gII) (S_jw : gWS) (T_jw : gWT) (U_jw : gWU) (G_js : gGG) : gI cI cJ cZ qh qn qr qs qp qi qj qw qo qiw qis qjw qjs S_n T_n U_n G_s I_i S_iw T_iw U_iw G_is I_j S_jw T_jw U_jw G_js 1 = wdW cI cJ cZ qn S_n T_n U_n := rfl
theorem gI_2 (cI cJ cZ : ClassId) (qh qn qr qs qp qi qj qw qo qiw qis qjw qjs : Nat → Nat) (S_n : gWS) (T_n : gWT) (U_n : gWU) (G_s : gGG) (I_i : gII) (S_iw : gWS) (T_iw : gWT) (U_iw : gWU) (G_is : gGG) (I_j : gII) (S_jw : gWS) (T_jw : gWT) (U_jw : gWU) (G_js : gGG) : gI cI cJ cZ qh qn qr qs qp qi qj qw qo qiw qis qjw qjs S_n T_n U_n G_s I_i S_iw T_iw U_iw G_is I_j S_jw T_jw U_jw G_js 2 = wdG cI cJ cZ qs G_s := rfl
theorem gI_3 (cI cJ cZ : ClassId) (qh qn qr qs qp qi qj qw qo qiw qis qjw qjs : Nat → Nat) (S_n : gWS) (T_n : gWT) (U_n : gWU) (G_s : gGG) (I_i : gII) (S_iw : gWS) (T_iw : gWT) (U_iw : gWU) (G_is : gGG) (I_j : gII) (S_jw : gWS) (T_jw : gWT) (U_jw : gWU) (G_js : gGG) : gI cI cJ cZ qh qn qr qs qp qi qj qw qo qiw qis qjw qjs S_n T_n U_n G_s I_i S_iw T_iw U_iw G_is I_j S_jw T_jw U_jw G_js 3 = wdI cI cJ cZ qi qiw qis I_i := rfl
theorem gI_4 (cI cJ cZ : ClassId) (qh qn qr qs qp qi qj qw qo qiw qis qjw qjs : Nat → Nat) (S_n : gWS) (T_n : gWT) (U_n : gWU) (G_s : gGG) (I_i : gII) (S_iw : gWS) (T_iw : gWT) (U_iw : gWU) (G_is : gGG) (I_j : gII) (S_jw : gWS) (T_jw : gWT) (U_jw : gWU) (G_js : gGG) : gI cI cJ cZ qh qn qr qs qp qi qj qw qo qiw qis qjw qjs S_n T_n U_n G_s I_i S_iw T_iw U_iw G_is I_j S_jw T_jw U_jw G_js 4 = wdW cI cJ cZ qiw S_iw T_iw U_iw := rfl
theorem gI_5 (cI cJ cZ : ClassId) (qh qn qr qs qp qi qj qw qo qiw qis qjw qjs : Nat → Nat) (S_n : gWS) (T_n : gWT) (U_n : gWU) (G_s : gGG) (I_i : gII) (S_iw : gWS) (T_iw : gWT) (U_iw : gWU) (G_is : gGG) (I_j : gII) (S_jw : gWS) (T_jw : gWT) (U_jw : gWU) (G_js : gGG) : gI cI cJ cZ qh qn qr qs qp qi qj qw qo qiw qis qjw qjs S_n T_n U_n G_s I_i S_iw T_iw U_iw G_is I_j S_jw T_jw U_jw G_js 5 = wdG cI cJ cZ qis G_is := rfl
theorem gI_6 (cI cJ cZ : ClassId) (qh qn qr qs qp qi qj qw qo qiw qis qjw qjs : Nat → Nat) (S_n : gWS) (T_n : gWT) (U_n : gWU) (G_s : gGG) (I_i : gII) (S_iw : gWS) (T_iw : gWT) (U_iw : gWU) (G_is : gGG) (I_j : gII) (S_jw : gWS) (T_jw : gWT) (U_jw : gWU) (G_js : gGG) : gI cI cJ cZ qh qn qr qs qp qi qj qw qo qiw qis qjw qjs S_n T_n U_n G_s I_i S_iw T_iw U_iw G_is I_j S_jw T_jw U_jw G_js 6 = wdI cI cJ cZ qj qjw qjs I_j := rfl
theorem gI_7 (cI cJ cZ : ClassId) (qh qn qr qs qp qi qj qw qo qiw qis qjw qjs : Nat → Nat) (S_n : gWS) (T_n : gWT) (U_n : gWU) (G_s : gGG) (I_i : gII) (S_iw : gWS) (T_iw : gWT) (U_iw : gWU) (G_is : gGG) (I_j : gII) (S_jw : gWS) (T_jw : gWT) (U_jw : gWU) (G_js : gGG) : gI cI cJ cZ qh qn qr qs qp qi qj qw qo qiw qis qjw qjs S_n T_n U_n G_s I_i S_iw T_iw U_iw G_is I_j S_jw T_jw U_jw G_js 7 = wdW cI cJ cZ qjw S_jw T_jw U_jw := rfl
theorem gI_8 (cI cJ cZ : ClassId) (qh qn qr qs qp qi qj qw qo qiw qis qjw qjs : Nat → Nat) (S_n : gWS) (T_n : gWT) (U_n : gWU) (G_s : gGG) (I_i : gII) (S_iw : gWS) (T_iw : gWT) (U_iw : gWU) (G_is : gGG) (I_j : gII) (S_jw : gWS) (T_jw : gWT) (U_jw : gWU) (G_js : gGG) : gI cI cJ cZ qh qn qr qs qp qi qj qw qo qiw qis qjw qjs S_n T_n U_n G_s I_i S_iw T_iw U_iw G_is I_j S_jw T_jw U_jw G_js 8 = wdG cI cJ cZ qjs G_js := rfl
/-! X6_image -/
abbrev rm_X6_image : Room := { frames := 3, cells := 0, slots := 0, locals := 106 }
theorem sg_X6_image : yX6_image.cls ≠ "java/lang/invoke/MethodHandle" ∧ yX6_image.cls ≠ "java/lang/invoke/VarHandle" ∧ (parseMethodDescriptor yX6_image.desc).map (fun d => d.parameters.length) = some 1 := by decide +kernel
theorem hin_X6_image_0 : ∀ w ∈ wsX00, w ∈ wsX6_image := fun _ h => List.mem_cons_of_mem _ (List.mem_append_left _ (List.mem_append_left _ (List.mem_append_right _ h)))
theorem hin_X6_image_6 : ∀ w ∈ wsX60, w ∈ wsX6_image := fun _ h => List.mem_cons_of_mem _ (List.mem_append_left _ (List.mem_append_left _ (List.mem_append_left _ (List.mem_append_right _ h))))
def rp_X6_image (cI cJ cZ : ClassId) (qh : Nat → Nat) (qn : Nat → Nat) (qr : Nat → Nat) (qs : Nat → Nat) (qp : Nat → Nat) (qi : Nat → Nat) (qj : Nat → Nat) (qw : Nat → Nat) (qo : Nat → Nat) (qiw : Nat → Nat) (qis : Nat → Nat) (qjw : Nat → Nat) (qjs : Nat → Nat) (S_n : gWS) (T_n : gWT) (U_n : gWU) (G_s : gGG) (U_iw : gWU) (U_jw : gWU) (Q : Int → gII → gWS → gWT → gGG → gII → gWS → gWT → gGG → Prop) : Option Value → va_W → Prop := fun v w1 => ∃ (r : Int) (I_i : gII) (S_iw : gWS) (T_iw : gWT) (G_is : gGG) (I_j : gII) (S_jw : gWS) (T_jw : gWT) (G_js : gGG), v = some (.int (iI r)) ∧ w1 = (wdX cI cJ cZ qh qn qr qs qp qi qj qw qo ) ++ (wdW cI cJ cZ qn S_n T_n U_n) ++ (wdG cI cJ cZ qs G_s) ++ (wdI cI cJ cZ qi qiw qis I_i) ++ (wdW cI cJ cZ qiw S_iw T_iw U_iw) ++ (wdG cI cJ cZ qis G_is) ++ (wdI cI cJ cZ qj qjw qjs I_j) ++ (wdW cI cJ cZ qjw S_jw T_jw U_jw) ++ (wdG cI cJ cZ qjs G_js) ∧ Q r I_i S_iw T_iw G_is I_j S_jw T_jw G_js
def wp_X6_image (S_n : gWS) (T_n : gWT) (G_s : gGG) (I_i : gII) (S_iw : gWS) (T_iw : gWT) (G_is : gGG) (I_j : gII) (S_jw : gWS) (T_jw : gWT) (G_js : gGG) (x1 : Int) (Q : Int → gII → gWS → gWT → gGG → gII → gWS → gWT → gGG → Prop) : Prop :=
    wp_X6_isOutside x1 0 1 (fun (r3 : Int) => ((r3 = 0 → rI x1 ∧ ((¬ x1 = 0 → wp_X5_become S_jw T_jw S_n T_n (fun (S_jw_36 : gWS) (T_jw_36 : gWT) => wp_X4_become G_js G_s (fun (G_js_47 : gGG) => Q 1 I_i S_iw T_iw G_is 1 S_jw_36 T_jw_36 G_js_47))) ∧ (¬ (¬ x1 = 0) → wp_X5_become S_iw T_iw S_n T_n (fun (S_iw_36 : gWS) (T_iw_36 : gWT) => wp_X4_become G_is G_s (fun (G_is_47 : gGG) => Q 1 1 S_iw_36 T_iw_36 G_is_47 I_j S_jw T_jw G_js))))) ∧ (¬ (r3 = 0) → Q (-2) I_i S_iw T_iw G_is I_j S_jw T_jw G_js)))

set_option maxHeartbeats 4000000 in
set_option maxRecDepth 20000 in
theorem c_X6_image {l : Launch} {D : va_G} {cI cJ cZ : ClassId} (qh : Nat → Nat) (qn : Nat → Nat) (qr : Nat → Nat) (qs : Nat → Nat) (qp : Nat → Nat) (qi : Nat → Nat) (qj : Nat → Nat) (qw : Nat → Nat) (qo : Nat → Nat) (qiw : Nat → Nat) (qis : Nat → Nat) (qjw : Nat → Nat) (qjs : Nat → Nat) (S_n : gWS) (T_n : gWT) (U_n : gWU) (G_s : gGG) (I_i : gII) (S_iw : gWS) (T_iw : gWT) (U_iw : gWU) (G_is : gGG) (I_j : gII) (S_jw : gWS) (T_jw : gWT) (U_jw : gWU) (G_js : gGG) (x1 : Int) (Q : Int → gII → gWS → gWT → gGG → gII → gWS → gWT → gGG → Prop) (h : wp_X6_image S_n T_n G_s I_i S_iw T_iw G_is I_j S_jw T_jw G_js x1 Q) : KM l D (kT cI cJ cZ) 0 0 yX6_image wsX6_image rm_X6_image [.ref (qh 0), .int (iI x1)] ((wdX cI cJ cZ qh qn qr qs qp qi qj qw qo ) ++ (wdW cI cJ cZ qn S_n T_n U_n) ++ (wdG cI cJ cZ qs G_s) ++ (wdI cI cJ cZ qi qiw qis I_i) ++ (wdW cI cJ cZ qiw S_iw T_iw U_iw) ++ (wdG cI cJ cZ qis G_is) ++ (wdI cI cJ cZ qj qjw qjs I_j) ++ (wdW cI cJ cZ qjw S_jw T_jw U_jw) ++ (wdG cI cJ cZ qjs G_js)) (rp_X6_image cI cJ cZ qh qn qr qs qp qi qj qw qo qiw qis qjw qjs S_n T_n U_n G_s U_iw U_jw Q) := by
  refine KM_intro (lv := [(0, .ref (qh 0)), (1, .int (iI x1))]) false rfl (by decide) (Nat.le_of_ble_eq_true rfl) rfl (fun h => absurd h (by decide)) (fun v ws hq => by obtain ⟨r, I_i, S_iw, T_iw, G_is, I_j, S_jw, T_jw, G_js, rfl, rfl, _⟩ := hq; exact Or.inr (Or.inl ⟨rfl, _, rfl⟩)) (fun A K C => ?_)
  refine k_iload_n C dX6_image_0 1 rfl rfl 1 rfl ?_
  refine k_iconst C dX6_image_1 2 rfl ?_
  refine k_iconst C dX6_image_2 3 rfl ?_
  have hM := c_X6_isOutside (l := l) (D := D) (cI := cI) (cJ := cJ) (cZ := cZ) x1 0 1 _ h
  refine k_callS0 C dX6_image_3 hM gX6_image_X6_isOutside rfl sg_X6_isOutside rfl (Nat.le_of_ble_eq_true rfl) ⟨⟨rfl, rfl⟩, by decide, by decide⟩ ⟨Nat.le_refl 0, Nat.le_refl 0⟩ 0 0 ⟨rfl, rfl⟩ 6 rfl (fun v w1 hq3 => ?_)
  obtain ⟨r3, rfl, rfl, hb3, h⟩ := hq3
  refine k_st (K := K) [.int (iI r3)] ((wdX cI cJ cZ qh qn qr qs qp qi qj qw qo ) ++ (wdW cI cJ cZ qn S_n T_n U_n) ++ (wdG cI cJ cZ qs G_s) ++ (wdI cI cJ cZ qi qiw qis I_i) ++ (wdW cI cJ cZ qiw S_iw T_iw U_iw) ++ (wdG cI cJ cZ qis G_is) ++ (wdI cI cJ cZ qj qjw qjs I_j) ++ (wdW cI cJ cZ qjw S_jw T_jw U_jw) ++ (wdG cI cJ cZ qjs G_js)) rfl (List.append_nil _) ?_
  obtain ⟨ht, hf⟩ := h
  refine k_if_eq C dX6_image_6 (by rcases hb3 with rfl | rfl <;> decide) 12 9 (by decide) rfl (fun hc6 => ?_) (fun hc6 => ?_)
  · have h := ht hc6; clear ht hf
    refine k_iload_n C dX6_image_12 1 rfl rfl 13 rfl ?_
    obtain ⟨hr13a, h⟩ := h
    obtain ⟨ht, hf⟩ := h
    refine k_if_ne C dX6_image_13 hr13a 23 16 (by decide) rfl (fun hc13 => ?_) (fun hc13 => ?_)
    · have h := ht hc13; clear ht hf
      refine k_aload_n C dX6_image_23 0 rfl rfl 24 rfl ?_
      refine k_get C dX6_image_24 0 rfl (ci := 6) rfl hin_X6_image_6 5 (by decide) (List.mem_of_getElem? (i := 2) rfl) rfl 27 rfl ?_
      refine k_astore_n C dX6_image_27 rfl (by decide) [(2, .ref (qj 0)), (0, .ref (qh 0)), (1, .int (iI x1))] rfl 28 rfl ?_
      refine k_aload_n C dX6_image_28 0 rfl rfl 29 rfl ?_
      refine k_getN C dX6_image_29 26 rfl (ci := 0) rfl hin_X6_image_0 1 (by decide) (List.mem_of_getElem? (i := 20) rfl) rfl 32 rfl ?_
      refine k_aload_n C dX6_image_32 1 rfl rfl 33 rfl ?_
      refine k_get C dX6_image_33 0 rfl (ci := 6) rfl hin_X6_image_6 0 (by decide) (List.mem_of_getElem? (i := 3) rfl) rfl 36 rfl ?_
      have hM := c_X5_become (l := l) (D := D) (cI := cI) (cJ := cJ) (cZ := cZ) qjw qn S_jw T_jw U_jw S_n T_n U_n _ h
      have hs := lapp_split (G := (gI cI cJ cZ qh qn qr qs qp qi qj qw qo qiw qis qjw qjs S_n T_n U_n G_s I_i S_iw T_iw U_iw G_is I_j S_jw T_jw U_jw G_js)) [0, 1, 2, 3, 4, 5, 6, 7, 8] [7, 1] [0, 2, 3, 4, 5, 6, 8] (by decide)
      rw [lapp_9 (gI cI cJ cZ qh qn qr qs qp qi qj qw qo qiw qis qjw qjs S_n T_n U_n G_s I_i S_iw T_iw U_iw G_is I_j S_jw T_jw U_jw G_js) 0 1 2 3 4 5 6 7 8, lapp_2 (gI cI cJ cZ qh qn qr qs qp qi qj qw qo qiw qis qjw qjs S_n T_n U_n G_s I_i S_iw T_iw U_iw G_is I_j S_jw T_jw U_jw G_js) 7 1, gI_0, gI_1, gI_2, gI_3, gI_4, gI_5, gI_6, gI_7, gI_8] at hs
      refine k_callP (wr := lapp (gI cI cJ cZ qh qn qr qs qp qi qj qw qo qiw qis qjw qjs S_n T_n U_n G_s I_i S_iw T_iw U_iw G_is I_j S_jw T_jw U_jw G_js) [0, 2, 3, 4, 5, 6, 8]) C dX6_image_36 hM gX6_image_X5_become rfl sg_X5_become 5 rfl rfl rfl (Nat.le_of_ble_eq_true rfl) ⟨⟨rfl, rfl⟩, by decide, by decide⟩ ⟨Nat.le_refl 0, Nat.le_refl 0⟩ hs 0 0 ⟨rfl, rfl⟩ 39 rfl (fun v w1 hq36 => ?_)
      obtain ⟨S_jw_36, T_jw_36, rfl, rfl, h⟩ := hq36
      have hj := lapp_join (G := (gI cI cJ cZ qh qn qr qs qp qi qj qw qo qiw qis qjw qjs S_n T_n U_n G_s I_i S_iw T_iw U_iw G_is I_j S_jw_36 T_jw_36 U_jw G_js)) [0, 2, 3, 4, 5, 6, 8] [7, 1] [0, 1, 2, 3, 4, 5, 6, 7, 8] (by decide)
      rw [lapp_agr (G := (gI cI cJ cZ qh qn qr qs qp qi qj qw qo qiw qis qjw qjs S_n T_n U_n G_s I_i S_iw T_iw U_iw G_is I_j S_jw_36 T_jw_36 U_jw G_js)) (G' := (gI cI cJ cZ qh qn qr qs qp qi qj qw qo qiw qis qjw qjs S_n T_n U_n G_s I_i S_iw T_iw U_iw G_is I_j S_jw T_jw U_jw G_js)) [0, 2, 3, 4, 5, 6, 8] ⟨rfl, rfl, rfl, rfl, rfl, rfl, rfl, trivial⟩, lapp_9 (gI cI cJ cZ qh qn qr qs qp qi qj qw qo qiw qis qjw qjs S_n T_n U_n G_s I_i S_iw T_iw U_iw G_is I_j S_jw_36 T_jw_36 U_jw G_js) 0 1 2 3 4 5 6 7 8, lapp_2 (gI cI cJ cZ qh qn qr qs qp qi qj qw qo qiw qis qjw qjs S_n T_n U_n G_s I_i S_iw T_iw U_iw G_is I_j S_jw_36 T_jw_36 U_jw G_js) 7 1, gI_0, gI_1, gI_2, gI_3, gI_4, gI_5, gI_6, gI_7, gI_8] at hj
      refine k_permP C hj ?_
      refine k_st (K := K) [] _ rfl rfl ?_
      refine k_aload_n C dX6_image_39 0 rfl rfl 40 rfl ?_
      refine k_getN C dX6_image_40 26 rfl (ci := 0) rfl hin_X6_image_0 2 (by decide) (List.mem_of_getElem? (i := 21) rfl) rfl 43 rfl ?_
      refine k_aload_n C dX6_image_43 1 rfl rfl 44 rfl ?_
      refine k_get C dX6_image_44 0 rfl (ci := 6) rfl hin_X6_image_6 2 (by decide) (List.mem_of_getElem? (i := 4) rfl) rfl 47 rfl ?_
      have hM := c_X4_become (l := l) (D := D) (cI := cI) (cJ := cJ) (cZ := cZ) qjs qs G_js G_s _ h
      have hs := lapp_split (G := (gI cI cJ cZ qh qn qr qs qp qi qj qw qo qiw qis qjw qjs S_n T_n U_n G_s I_i S_iw T_iw U_iw G_is I_j S_jw_36 T_jw_36 U_jw G_js)) [0, 1, 2, 3, 4, 5, 6, 7, 8] [8, 2] [0, 1, 3, 4, 5, 6, 7] (by decide)
      rw [lapp_9 (gI cI cJ cZ qh qn qr qs qp qi qj qw qo qiw qis qjw qjs S_n T_n U_n G_s I_i S_iw T_iw U_iw G_is I_j S_jw_36 T_jw_36 U_jw G_js) 0 1 2 3 4 5 6 7 8, lapp_2 (gI cI cJ cZ qh qn qr qs qp qi qj qw qo qiw qis qjw qjs S_n T_n U_n G_s I_i S_iw T_iw U_iw G_is I_j S_jw_36 T_jw_36 U_jw G_js) 8 2, gI_0, gI_1, gI_2, gI_3, gI_4, gI_5, gI_6, gI_7, gI_8] at hs
      refine k_callP (wr := lapp (gI cI cJ cZ qh qn qr qs qp qi qj qw qo qiw qis qjw qjs S_n T_n U_n G_s I_i S_iw T_iw U_iw G_is I_j S_jw_36 T_jw_36 U_jw G_js) [0, 1, 3, 4, 5, 6, 7]) C dX6_image_47 hM gX6_image_X4_become rfl sg_X4_become 4 rfl rfl rfl (Nat.le_of_ble_eq_true rfl) ⟨⟨rfl, rfl⟩, by decide, by decide⟩ ⟨Nat.le_refl 0, Nat.le_refl 0⟩ hs 0 0 ⟨rfl, rfl⟩ 50 rfl (fun v w1 hq47 => ?_)
      obtain ⟨G_js_47, rfl, rfl, h⟩ := hq47
      have hj := lapp_join (G := (gI cI cJ cZ qh qn qr qs qp qi qj qw qo qiw qis qjw qjs S_n T_n U_n G_s I_i S_iw T_iw U_iw G_is I_j S_jw_36 T_jw_36 U_jw G_js_47)) [0, 1, 3, 4, 5, 6, 7] [8, 2] [0, 1, 2, 3, 4, 5, 6, 7, 8] (by decide)
      rw [lapp_agr (G := (gI cI cJ cZ qh qn qr qs qp qi qj qw qo qiw qis qjw qjs S_n T_n U_n G_s I_i S_iw T_iw U_iw G_is I_j S_jw_36 T_jw_36 U_jw G_js_47)) (G' := (gI cI cJ cZ qh qn qr qs qp qi qj qw qo qiw qis qjw qjs S_n T_n U_n G_s I_i S_iw T_iw U_iw G_is I_j S_jw_36 T_jw_36 U_jw G_js)) [0, 1, 3, 4, 5, 6, 7] ⟨rfl, rfl, rfl, rfl, rfl, rfl, rfl, trivial⟩, lapp_9 (gI cI cJ cZ qh qn qr qs qp qi qj qw qo qiw qis qjw qjs S_n T_n U_n G_s I_i S_iw T_iw U_iw G_is I_j S_jw_36 T_jw_36 U_jw G_js_47) 0 1 2 3 4 5 6 7 8, lapp_2 (gI cI cJ cZ qh qn qr qs qp qi qj qw qo qiw qis qjw qjs S_n T_n U_n G_s I_i S_iw T_iw U_iw G_is I_j S_jw_36 T_jw_36 U_jw G_js_47) 8 2, gI_0, gI_1, gI_2, gI_3, gI_4, gI_5, gI_6, gI_7, gI_8] at hj
      refine k_permP C hj ?_
      refine k_st (K := K) [] _ rfl rfl ?_
      refine k_aload_n C dX6_image_50 0 rfl rfl 51 rfl ?_
      refine k_iconst C dX6_image_51 52 rfl ?_
      refine k_putN C dX6_image_52 26 rfl (ci := 0) rfl hin_X6_image_0 tyX0_ok nmX0 0 (by decide) (List.mem_of_getElem? (i := 19) rfl) rfl rfl rfl (Nat.le_of_ble_eq_true rfl) ((wdX cI cJ cZ qh qn qr qs qp qi qj qw qo ) ++ (wdW cI cJ cZ qn S_n T_n U_n) ++ (wdG cI cJ cZ qs G_s) ++ (wdI cI cJ cZ qi qiw qis I_i) ++ (wdW cI cJ cZ qiw S_iw T_iw U_iw) ++ (wdG cI cJ cZ qis G_is) ++ (wdI cI cJ cZ qj qjw qjs 1) ++ (wdW cI cJ cZ qjw S_jw_36 T_jw_36 U_jw) ++ (wdG cI cJ cZ qjs G_js_47)) rfl 55 rfl ?_
      refine k_iconst C dX6_image_55 56 rfl ?_
      exact k_iret C dX6_image_56 ⟨1, I_i, S_iw, T_iw, G_is, 1, S_jw_36, T_jw_36, G_js_47, rfl, by with_reducible rfl, h⟩
    · have h := hf hc13; clear ht hf
      refine k_aload_n C dX6_image_16 0 rfl rfl 17 rfl ?_
      refine k_get C dX6_image_17 0 rfl (ci := 6) rfl hin_X6_image_6 4 (by decide) (List.mem_of_getElem? (i := 1) rfl) rfl 20 rfl ?_
      refine k_goto C dX6_image_20 27 (by decide) ?_
      refine k_astore_n C dX6_image_27 rfl (by decide) [(2, .ref (qi 0)), (0, .ref (qh 0)), (1, .int (iI x1))] rfl 28 rfl ?_
      refine k_aload_n C dX6_image_28 0 rfl rfl 29 rfl ?_
      refine k_getN C dX6_image_29 13 rfl (ci := 0) rfl hin_X6_image_0 1 (by decide) (List.mem_of_getElem? (i := 20) rfl) rfl 32 rfl ?_
      refine k_aload_n C dX6_image_32 1 rfl rfl 33 rfl ?_
      refine k_get C dX6_image_33 0 rfl (ci := 6) rfl hin_X6_image_6 0 (by decide) (List.mem_of_getElem? (i := 3) rfl) rfl 36 rfl ?_
      have hM := c_X5_become (l := l) (D := D) (cI := cI) (cJ := cJ) (cZ := cZ) qiw qn S_iw T_iw U_iw S_n T_n U_n _ h
      have hs := lapp_split (G := (gI cI cJ cZ qh qn qr qs qp qi qj qw qo qiw qis qjw qjs S_n T_n U_n G_s I_i S_iw T_iw U_iw G_is I_j S_jw T_jw U_jw G_js)) [0, 1, 2, 3, 4, 5, 6, 7, 8] [4, 1] [0, 2, 3, 5, 6, 7, 8] (by decide)
      rw [lapp_9 (gI cI cJ cZ qh qn qr qs qp qi qj qw qo qiw qis qjw qjs S_n T_n U_n G_s I_i S_iw T_iw U_iw G_is I_j S_jw T_jw U_jw G_js) 0 1 2 3 4 5 6 7 8, lapp_2 (gI cI cJ cZ qh qn qr qs qp qi qj qw qo qiw qis qjw qjs S_n T_n U_n G_s I_i S_iw T_iw U_iw G_is I_j S_jw T_jw U_jw G_js) 4 1, gI_0, gI_1, gI_2, gI_3, gI_4, gI_5, gI_6, gI_7, gI_8] at hs
      refine k_callP (wr := lapp (gI cI cJ cZ qh qn qr qs qp qi qj qw qo qiw qis qjw qjs S_n T_n U_n G_s I_i S_iw T_iw U_iw G_is I_j S_jw T_jw U_jw G_js) [0, 2, 3, 5, 6, 7, 8]) C dX6_image_36 hM gX6_image_X5_become rfl sg_X5_become 5 rfl rfl rfl (Nat.le_of_ble_eq_true rfl) ⟨⟨rfl, rfl⟩, by decide, by decide⟩ ⟨Nat.le_refl 0, Nat.le_refl 0⟩ hs 0 0 ⟨rfl, rfl⟩ 39 rfl (fun v w1 hq36 => ?_)
      obtain ⟨S_iw_36, T_iw_36, rfl, rfl, h⟩ := hq36
      have hj := lapp_join (G := (gI cI cJ cZ qh qn qr qs qp qi qj qw qo qiw qis qjw qjs S_n T_n U_n G_s I_i S_iw_36 T_iw_36 U_iw G_is I_j S_jw T_jw U_jw G_js)) [0, 2, 3, 5, 6, 7, 8] [4, 1] [0, 1, 2, 3, 4, 5, 6, 7, 8] (by decide)
      rw [lapp_agr (G := (gI cI cJ cZ qh qn qr qs qp qi qj qw qo qiw qis qjw qjs S_n T_n U_n G_s I_i S_iw_36 T_iw_36 U_iw G_is I_j S_jw T_jw U_jw G_js)) (G' := (gI cI cJ cZ qh qn qr qs qp qi qj qw qo qiw qis qjw qjs S_n T_n U_n G_s I_i S_iw T_iw U_iw G_is I_j S_jw T_jw U_jw G_js)) [0, 2, 3, 5, 6, 7, 8] ⟨rfl, rfl, rfl, rfl, rfl, rfl, rfl, trivial⟩, lapp_9 (gI cI cJ cZ qh qn qr qs qp qi qj qw qo qiw qis qjw qjs S_n T_n U_n G_s I_i S_iw_36 T_iw_36 U_iw G_is I_j S_jw T_jw U_jw G_js) 0 1 2 3 4 5 6 7 8, lapp_2 (gI cI cJ cZ qh qn qr qs qp qi qj qw qo qiw qis qjw qjs S_n T_n U_n G_s I_i S_iw_36 T_iw_36 U_iw G_is I_j S_jw T_jw U_jw G_js) 4 1, gI_0, gI_1, gI_2, gI_3, gI_4, gI_5, gI_6, gI_7, gI_8] at hj
      refine k_permP C hj ?_
      refine k_st (K := K) [] _ rfl rfl ?_
      refine k_aload_n C dX6_image_39 0 rfl rfl 40 rfl ?_
      refine k_getN C dX6_image_40 13 rfl (ci := 0) rfl hin_X6_image_0 2 (by decide) (List.mem_of_getElem? (i := 21) rfl) rfl 43 rfl ?_
      refine k_aload_n C dX6_image_43 1 rfl rfl 44 rfl ?_
      refine k_get C dX6_image_44 0 rfl (ci := 6) rfl hin_X6_image_6 2 (by decide) (List.mem_of_getElem? (i := 4) rfl) rfl 47 rfl ?_
      have hM := c_X4_become (l := l) (D := D) (cI := cI) (cJ := cJ) (cZ := cZ) qis qs G_is G_s _ h
      have hs := lapp_split (G := (gI cI cJ cZ qh qn qr qs qp qi qj qw qo qiw qis qjw qjs S_n T_n U_n G_s I_i S_iw_36 T_iw_36 U_iw G_is I_j S_jw T_jw U_jw G_js)) [0, 1, 2, 3, 4, 5, 6, 7, 8] [5, 2] [0, 1, 3, 4, 6, 7, 8] (by decide)
      rw [lapp_9 (gI cI cJ cZ qh qn qr qs qp qi qj qw qo qiw qis qjw qjs S_n T_n U_n G_s I_i S_iw_36 T_iw_36 U_iw G_is I_j S_jw T_jw U_jw G_js) 0 1 2 3 4 5 6 7 8, lapp_2 (gI cI cJ cZ qh qn qr qs qp qi qj qw qo qiw qis qjw qjs S_n T_n U_n G_s I_i S_iw_36 T_iw_36 U_iw G_is I_j S_jw T_jw U_jw G_js) 5 2, gI_0, gI_1, gI_2, gI_3, gI_4, gI_5, gI_6, gI_7, gI_8] at hs
      refine k_callP (wr := lapp (gI cI cJ cZ qh qn qr qs qp qi qj qw qo qiw qis qjw qjs S_n T_n U_n G_s I_i S_iw_36 T_iw_36 U_iw G_is I_j S_jw T_jw U_jw G_js) [0, 1, 3, 4, 6, 7, 8]) C dX6_image_47 hM gX6_image_X4_become rfl sg_X4_become 4 rfl rfl rfl (Nat.le_of_ble_eq_true rfl) ⟨⟨rfl, rfl⟩, by decide, by decide⟩ ⟨Nat.le_refl 0, Nat.le_refl 0⟩ hs 0 0 ⟨rfl, rfl⟩ 50 rfl (fun v w1 hq47 => ?_)
      obtain ⟨G_is_47, rfl, rfl, h⟩ := hq47
      have hj := lapp_join (G := (gI cI cJ cZ qh qn qr qs qp qi qj qw qo qiw qis qjw qjs S_n T_n U_n G_s I_i S_iw_36 T_iw_36 U_iw G_is_47 I_j S_jw T_jw U_jw G_js)) [0, 1, 3, 4, 6, 7, 8] [5, 2] [0, 1, 2, 3, 4, 5, 6, 7, 8] (by decide)
      rw [lapp_agr (G := (gI cI cJ cZ qh qn qr qs qp qi qj qw qo qiw qis qjw qjs S_n T_n U_n G_s I_i S_iw_36 T_iw_36 U_iw G_is_47 I_j S_jw T_jw U_jw G_js)) (G' := (gI cI cJ cZ qh qn qr qs qp qi qj qw qo qiw qis qjw qjs S_n T_n U_n G_s I_i S_iw_36 T_iw_36 U_iw G_is I_j S_jw T_jw U_jw G_js)) [0, 1, 3, 4, 6, 7, 8] ⟨rfl, rfl, rfl, rfl, rfl, rfl, rfl, trivial⟩, lapp_9 (gI cI cJ cZ qh qn qr qs qp qi qj qw qo qiw qis qjw qjs S_n T_n U_n G_s I_i S_iw_36 T_iw_36 U_iw G_is_47 I_j S_jw T_jw U_jw G_js) 0 1 2 3 4 5 6 7 8, lapp_2 (gI cI cJ cZ qh qn qr qs qp qi qj qw qo qiw qis qjw qjs S_n T_n U_n G_s I_i S_iw_36 T_iw_36 U_iw G_is_47 I_j S_jw T_jw U_jw G_js) 5 2, gI_0, gI_1, gI_2, gI_3, gI_4, gI_5, gI_6, gI_7, gI_8] at hj
      refine k_permP C hj ?_
      refine k_st (K := K) [] _ rfl rfl ?_
      refine k_aload_n C dX6_image_50 0 rfl rfl 51 rfl ?_
      refine k_iconst C dX6_image_51 52 rfl ?_
      refine k_putN C dX6_image_52 13 rfl (ci := 0) rfl hin_X6_image_0 tyX0_ok nmX0 0 (by decide) (List.mem_of_getElem? (i := 19) rfl) rfl rfl rfl (Nat.le_of_ble_eq_true rfl) ((wdX cI cJ cZ qh qn qr qs qp qi qj qw qo ) ++ (wdW cI cJ cZ qn S_n T_n U_n) ++ (wdG cI cJ cZ qs G_s) ++ (wdI cI cJ cZ qi qiw qis 1) ++ (wdW cI cJ cZ qiw S_iw_36 T_iw_36 U_iw) ++ (wdG cI cJ cZ qis G_is_47) ++ (wdI cI cJ cZ qj qjw qjs I_j) ++ (wdW cI cJ cZ qjw S_jw T_jw U_jw) ++ (wdG cI cJ cZ qjs G_js)) rfl 55 rfl ?_
      refine k_iconst C dX6_image_55 56 rfl ?_
      exact k_iret C dX6_image_56 ⟨1, 1, S_iw_36, T_iw_36, G_is_47, I_j, S_jw, T_jw, G_js, rfl, by with_reducible rfl, h⟩
  · have h := hf hc6; clear ht hf
    refine k_bipush C dX6_image_9 (by decide) 11 rfl ?_
    exact k_iret C dX6_image_11 ⟨(-2), I_i, S_iw, T_iw, G_is, I_j, S_jw, T_jw, G_js, rfl, by with_reducible rfl, h⟩

/-! X6_restore -/
abbrev rm_X6_restore : Room := { frames := 3, cells := 0, slots := 0, locals := 106 }
theorem sg_X6_restore : yX6_restore.cls ≠ "java/lang/invoke/MethodHandle" ∧ yX6_restore.cls ≠ "java/lang/invoke/VarHandle" ∧ (parseMethodDescriptor yX6_restore.desc).map (fun d => d.parameters.length) = some 1 := by decide +kernel
theorem hin_X6_restore_0 : ∀ w ∈ wsX00, w ∈ wsX6_restore := fun _ h => List.mem_cons_of_mem _ (List.mem_append_left _ (List.mem_append_left _ (List.mem_append_right _ h)))
theorem hin_X6_restore_6 : ∀ w ∈ wsX60, w ∈ wsX6_restore := fun _ h => List.mem_cons_of_mem _ (List.mem_append_left _ (List.mem_append_left _ (List.mem_append_left _ (List.mem_append_right _ h))))
def rp_X6_restore (cI cJ cZ : ClassId) (qh : Nat → Nat) (qn : Nat → Nat) (qr : Nat → Nat) (qs : Nat → Nat) (qp : Nat → Nat) (qi : Nat → Nat) (qj : Nat → Nat) (qw : Nat → Nat) (qo : Nat → Nat) (qiw : Nat → Nat) (qis : Nat → Nat) (qjw : Nat → Nat) (qjs : Nat → Nat) (U_n : gWU) (I_i : gII) (S_iw : gWS) (T_iw : gWT) (U_iw : gWU) (G_is : gGG) (I_j : gII) (S_jw : gWS) (T_jw : gWT) (U_jw : gWU) (G_js : gGG) (Q : Int → gWS → gWT → gGG → Prop) : Option Value → va_W → Prop := fun v w1 => ∃ (r : Int) (S_n : gWS) (T_n : gWT) (G_s : gGG), v = some (.int (iI r)) ∧ w1 = (wdX cI cJ cZ qh qn qr qs qp qi qj qw qo ) ++ (wdW cI cJ cZ qn S_n T_n U_n) ++ (wdG cI cJ cZ qs G_s) ++ (wdI cI cJ cZ qi qiw qis I_i) ++ (wdW cI cJ cZ qiw S_iw T_iw U_iw) ++ (wdG cI cJ cZ qis G_is) ++ (wdI cI cJ cZ qj qjw qjs I_j) ++ (wdW cI cJ cZ qjw S_jw T_jw U_jw) ++ (wdG cI cJ cZ qjs G_js) ∧ Q r S_n T_n G_s
def wp_X6_restore (S_n : gWS) (T_n : gWT) (G_s : gGG) (I_i : gII) (S_iw : gWS) (T_iw : gWT) (G_is : gGG) (I_j : gII) (S_jw : gWS) (T_jw : gWT) (G_js : gGG) (x1 : Int) (Q : Int → gWS → gWT → gGG → Prop) : Prop :=
    wp_X6_isOutside x1 0 1 (fun (r3 : Int) => ((r3 = 0 → rI x1 ∧ ((¬ x1 = 0 → rI I_j ∧ ((¬ I_j = 0 → wp_X5_become S_n T_n S_jw T_jw (fun (S_n_46 : gWS) (T_n_46 : gWT) => wp_X4_become G_s G_js (fun (G_s_57 : gGG) => Q 1 S_n_46 T_n_46 G_s_57))) ∧ (¬ (¬ I_j = 0) → Q (-3) S_n T_n G_s))) ∧ (¬ (¬ x1 = 0) → rI I_i ∧ ((¬ I_i = 0 → wp_X5_become S_n T_n S_iw T_iw (fun (S_n_46 : gWS) (T_n_46 : gWT) => wp_X4_become G_s G_is (fun (G_s_57 : gGG) => Q 1 S_n_46 T_n_46 G_s_57))) ∧ (¬ (¬ I_i = 0) → Q (-3) S_n T_n G_s))))) ∧ (¬ (r3 = 0) → Q (-2) S_n T_n G_s)))

set_option maxHeartbeats 4000000 in
set_option maxRecDepth 20000 in
theorem c_X6_restore {l : Launch} {D : va_G} {cI cJ cZ : ClassId} (qh : Nat → Nat) (qn : Nat → Nat) (qr : Nat → Nat) (qs : Nat → Nat) (qp : Nat → Nat) (qi : Nat → Nat) (qj : Nat → Nat) (qw : Nat → Nat) (qo : Nat → Nat) (qiw : Nat → Nat) (qis : Nat → Nat) (qjw : Nat → Nat) (qjs : Nat → Nat) (S_n : gWS) (T_n : gWT) (U_n : gWU) (G_s : gGG) (I_i : gII) (S_iw : gWS) (T_iw : gWT) (U_iw : gWU) (G_is : gGG) (I_j : gII) (S_jw : gWS) (T_jw : gWT) (U_jw : gWU) (G_js : gGG) (x1 : Int) (Q : Int → gWS → gWT → gGG → Prop) (h : wp_X6_restore S_n T_n G_s I_i S_iw T_iw G_is I_j S_jw T_jw G_js x1 Q) : KM l D (kT cI cJ cZ) 0 0 yX6_restore wsX6_restore rm_X6_restore [.ref (qh 0), .int (iI x1)] ((wdX cI cJ cZ qh qn qr qs qp qi qj qw qo ) ++ (wdW cI cJ cZ qn S_n T_n U_n) ++ (wdG cI cJ cZ qs G_s) ++ (wdI cI cJ cZ qi qiw qis I_i) ++ (wdW cI cJ cZ qiw S_iw T_iw U_iw) ++ (wdG cI cJ cZ qis G_is) ++ (wdI cI cJ cZ qj qjw qjs I_j) ++ (wdW cI cJ cZ qjw S_jw T_jw U_jw) ++ (wdG cI cJ cZ qjs G_js)) (rp_X6_restore cI cJ cZ qh qn qr qs qp qi qj qw qo qiw qis qjw qjs U_n I_i S_iw T_iw U_iw G_is I_j S_jw T_jw U_jw G_js Q) := by
  refine KM_intro (lv := [(0, .ref (qh 0)), (1, .int (iI x1))]) false rfl (by decide) (Nat.le_of_ble_eq_true rfl) rfl (fun h => absurd h (by decide)) (fun v ws hq => by obtain ⟨r, S_n, T_n, G_s, rfl, rfl, _⟩ := hq; exact Or.inr (Or.inl ⟨rfl, _, rfl⟩)) (fun A K C => ?_)
  refine k_iload_n C dX6_restore_0 1 rfl rfl 1 rfl ?_
  refine k_iconst C dX6_restore_1 2 rfl ?_
  refine k_iconst C dX6_restore_2 3 rfl ?_
  have hM := c_X6_isOutside (l := l) (D := D) (cI := cI) (cJ := cJ) (cZ := cZ) x1 0 1 _ h
  refine k_callS0 C dX6_restore_3 hM gX6_restore_X6_isOutside rfl sg_X6_isOutside rfl (Nat.le_of_ble_eq_true rfl) ⟨⟨rfl, rfl⟩, by decide, by decide⟩ ⟨Nat.le_refl 0, Nat.le_refl 0⟩ 0 0 ⟨rfl, rfl⟩ 6 rfl (fun v w1 hq3 => ?_)
  obtain ⟨r3, rfl, rfl, hb3, h⟩ := hq3
  refine k_st (K := K) [.int (iI r3)] ((wdX cI cJ cZ qh qn qr qs qp qi qj qw qo ) ++ (wdW cI cJ cZ qn S_n T_n U_n) ++ (wdG cI cJ cZ qs G_s) ++ (wdI cI cJ cZ qi qiw qis I_i) ++ (wdW cI cJ cZ qiw S_iw T_iw U_iw) ++ (wdG cI cJ cZ qis G_is) ++ (wdI cI cJ cZ qj qjw qjs I_j) ++ (wdW cI cJ cZ qjw S_jw T_jw U_jw) ++ (wdG cI cJ cZ qjs G_js)) rfl (List.append_nil _) ?_
  obtain ⟨ht, hf⟩ := h
  refine k_if_eq C dX6_restore_6 (by rcases hb3 with rfl | rfl <;> decide) 12 9 (by decide) rfl (fun hc6 => ?_) (fun hc6 => ?_)
  · have h := ht hc6; clear ht hf
    refine k_iload_n C dX6_restore_12 1 rfl rfl 13 rfl ?_
    obtain ⟨hr13a, h⟩ := h
    obtain ⟨ht, hf⟩ := h
    refine k_if_ne C dX6_restore_13 hr13a 23 16 (by decide) rfl (fun hc13 => ?_) (fun hc13 => ?_)
    · have h := ht hc13; clear ht hf
      refine k_aload_n C dX6_restore_23 0 rfl rfl 24 rfl ?_
      refine k_get C dX6_restore_24 0 rfl (ci := 6) rfl hin_X6_restore_6 5 (by decide) (List.mem_of_getElem? (i := 2) rfl) rfl 27 rfl ?_
      refine k_astore_n C dX6_restore_27 rfl (by decide) [(2, .ref (qj 0)), (0, .ref (qh 0)), (1, .int (iI x1))] rfl 28 rfl ?_
      refine k_aload_n C dX6_restore_28 0 rfl rfl 29 rfl ?_
      refine k_getN C dX6_restore_29 26 rfl (ci := 0) rfl hin_X6_restore_0 0 (by decide) (List.mem_of_getElem? (i := 19) rfl) rfl 32 rfl ?_
      obtain ⟨hr32a, h⟩ := h
      obtain ⟨ht, hf⟩ := h
      refine k_if_ne C dX6_restore_32 hr32a 38 35 (by decide) rfl (fun hc32 => ?_) (fun hc32 => ?_)
      · have h := ht hc32; clear ht hf
        refine k_aload_n C dX6_restore_38 1 rfl rfl 39 rfl ?_
        refine k_get C dX6_restore_39 0 rfl (ci := 6) rfl hin_X6_restore_6 0 (by decide) (List.mem_of_getElem? (i := 3) rfl) rfl 42 rfl ?_
        refine k_aload_n C dX6_restore_42 0 rfl rfl 43 rfl ?_
        refine k_getN C dX6_restore_43 26 rfl (ci := 0) rfl hin_X6_restore_0 1 (by decide) (List.mem_of_getElem? (i := 20) rfl) rfl 46 rfl ?_
        have hM := c_X5_become (l := l) (D := D) (cI := cI) (cJ := cJ) (cZ := cZ) qn qjw S_n T_n U_n S_jw T_jw U_jw _ h
        have hs := lapp_split (G := (gI cI cJ cZ qh qn qr qs qp qi qj qw qo qiw qis qjw qjs S_n T_n U_n G_s I_i S_iw T_iw U_iw G_is I_j S_jw T_jw U_jw G_js)) [0, 1, 2, 3, 4, 5, 6, 7, 8] [1, 7] [0, 2, 3, 4, 5, 6, 8] (by decide)
        rw [lapp_9 (gI cI cJ cZ qh qn qr qs qp qi qj qw qo qiw qis qjw qjs S_n T_n U_n G_s I_i S_iw T_iw U_iw G_is I_j S_jw T_jw U_jw G_js) 0 1 2 3 4 5 6 7 8, lapp_2 (gI cI cJ cZ qh qn qr qs qp qi qj qw qo qiw qis qjw qjs S_n T_n U_n G_s I_i S_iw T_iw U_iw G_is I_j S_jw T_jw U_jw G_js) 1 7, gI_0, gI_1, gI_2, gI_3, gI_4, gI_5, gI_6, gI_7, gI_8] at hs
        refine k_callP (wr := lapp (gI cI cJ cZ qh qn qr qs qp qi qj qw qo qiw qis qjw qjs S_n T_n U_n G_s I_i S_iw T_iw U_iw G_is I_j S_jw T_jw U_jw G_js) [0, 2, 3, 4, 5, 6, 8]) C dX6_restore_46 hM gX6_restore_X5_become rfl sg_X5_become 5 rfl rfl rfl (Nat.le_of_ble_eq_true rfl) ⟨⟨rfl, rfl⟩, by decide, by decide⟩ ⟨Nat.le_refl 0, Nat.le_refl 0⟩ hs 0 0 ⟨rfl, rfl⟩ 49 rfl (fun v w1 hq46 => ?_)
        obtain ⟨S_n_46, T_n_46, rfl, rfl, h⟩ := hq46
        have hj := lapp_join (G := (gI cI cJ cZ qh qn qr qs qp qi qj qw qo qiw qis qjw qjs S_n_46 T_n_46 U_n G_s I_i S_iw T_iw U_iw G_is I_j S_jw T_jw U_jw G_js)) [0, 2, 3, 4, 5, 6, 8] [1, 7] [0, 1, 2, 3, 4, 5, 6, 7, 8] (by decide)
        rw [lapp_agr (G := (gI cI cJ cZ qh qn qr qs qp qi qj qw qo qiw qis qjw qjs S_n_46 T_n_46 U_n G_s I_i S_iw T_iw U_iw G_is I_j S_jw T_jw U_jw G_js)) (G' := (gI cI cJ cZ qh qn qr qs qp qi qj qw qo qiw qis qjw qjs S_n T_n U_n G_s I_i S_iw T_iw U_iw G_is I_j S_jw T_jw U_jw G_js)) [0, 2, 3, 4, 5, 6, 8] ⟨rfl, rfl, rfl, rfl, rfl, rfl, rfl, trivial⟩, lapp_9 (gI cI cJ cZ qh qn qr qs qp qi qj qw qo qiw qis qjw qjs S_n_46 T_n_46 U_n G_s I_i S_iw T_iw U_iw G_is I_j S_jw T_jw U_jw G_js) 0 1 2 3 4 5 6 7 8, lapp_2 (gI cI cJ cZ qh qn qr qs qp qi qj qw qo qiw qis qjw qjs S_n_46 T_n_46 U_n G_s I_i S_iw T_iw U_iw G_is I_j S_jw T_jw U_jw G_js) 1 7, gI_0, gI_1, gI_2, gI_3, gI_4, gI_5, gI_6, gI_7, gI_8] at hj
        refine k_permP C hj ?_
        refine k_st (K := K) [] _ rfl rfl ?_
        refine k_aload_n C dX6_restore_49 1 rfl rfl 50 rfl ?_
        refine k_get C dX6_restore_50 0 rfl (ci := 6) rfl hin_X6_restore_6 2 (by decide) (List.mem_of_getElem? (i := 4) rfl) rfl 53 rfl ?_
        refine k_aload_n C dX6_restore_53 0 rfl rfl 54 rfl ?_
        refine k_getN C dX6_restore_54 26 rfl (ci := 0) rfl hin_X6_restore_0 2 (by decide) (List.mem_of_getElem? (i := 21) rfl) rfl 57 rfl ?_
        have hM := c_X4_become (l := l) (D := D) (cI := cI) (cJ := cJ) (cZ := cZ) qs qjs G_s G_js _ h
        have hs := lapp_split (G := (gI cI cJ cZ qh qn qr qs qp qi qj qw qo qiw qis qjw qjs S_n_46 T_n_46 U_n G_s I_i S_iw T_iw U_iw G_is I_j S_jw T_jw U_jw G_js)) [0, 1, 2, 3, 4, 5, 6, 7, 8] [2, 8] [0, 1, 3, 4, 5, 6, 7] (by decide)
        rw [lapp_9 (gI cI cJ cZ qh qn qr qs qp qi qj qw qo qiw qis qjw qjs S_n_46 T_n_46 U_n G_s I_i S_iw T_iw U_iw G_is I_j S_jw T_jw U_jw G_js) 0 1 2 3 4 5 6 7 8, lapp_2 (gI cI cJ cZ qh qn qr qs qp qi qj qw qo qiw qis qjw qjs S_n_46 T_n_46 U_n G_s I_i S_iw T_iw U_iw G_is I_j S_jw T_jw U_jw G_js) 2 8, gI_0, gI_1, gI_2, gI_3, gI_4, gI_5, gI_6, gI_7, gI_8] at hs
        refine k_callP (wr := lapp (gI cI cJ cZ qh qn qr qs qp qi qj qw qo qiw qis qjw qjs S_n_46 T_n_46 U_n G_s I_i S_iw T_iw U_iw G_is I_j S_jw T_jw U_jw G_js) [0, 1, 3, 4, 5, 6, 7]) C dX6_restore_57 hM gX6_restore_X4_become rfl sg_X4_become 4 rfl rfl rfl (Nat.le_of_ble_eq_true rfl) ⟨⟨rfl, rfl⟩, by decide, by decide⟩ ⟨Nat.le_refl 0, Nat.le_refl 0⟩ hs 0 0 ⟨rfl, rfl⟩ 60 rfl (fun v w1 hq57 => ?_)
        obtain ⟨G_s_57, rfl, rfl, h⟩ := hq57
        have hj := lapp_join (G := (gI cI cJ cZ qh qn qr qs qp qi qj qw qo qiw qis qjw qjs S_n_46 T_n_46 U_n G_s_57 I_i S_iw T_iw U_iw G_is I_j S_jw T_jw U_jw G_js)) [0, 1, 3, 4, 5, 6, 7] [2, 8] [0, 1, 2, 3, 4, 5, 6, 7, 8] (by decide)
        rw [lapp_agr (G := (gI cI cJ cZ qh qn qr qs qp qi qj qw qo qiw qis qjw qjs S_n_46 T_n_46 U_n G_s_57 I_i S_iw T_iw U_iw G_is I_j S_jw T_jw U_jw G_js)) (G' := (gI cI cJ cZ qh qn qr qs qp qi qj qw qo qiw qis qjw qjs S_n_46 T_n_46 U_n G_s I_i S_iw T_iw U_iw G_is I_j S_jw T_jw U_jw G_js)) [0, 1, 3, 4, 5, 6, 7] ⟨rfl, rfl, rfl, rfl, rfl, rfl, rfl, trivial⟩, lapp_9 (gI cI cJ cZ qh qn qr qs qp qi qj qw qo qiw qis qjw qjs S_n_46 T_n_46 U_n G_s_57 I_i S_iw T_iw U_iw G_is I_j S_jw T_jw U_jw G_js) 0 1 2 3 4 5 6 7 8, lapp_2 (gI cI cJ cZ qh qn qr qs qp qi qj qw qo qiw qis qjw qjs S_n_46 T_n_46 U_n G_s_57 I_i S_iw T_iw U_iw G_is I_j S_jw T_jw U_jw G_js) 2 8, gI_0, gI_1, gI_2, gI_3, gI_4, gI_5, gI_6, gI_7, gI_8] at hj
        refine k_permP C hj ?_
        refine k_st (K := K) [] _ rfl rfl ?_
        refine k_iconst C dX6_restore_60 61 rfl ?_
        exact k_iret C dX6_restore_61 ⟨1, S_n_46, T_n_46, G_s_57, rfl, by with_reducible rfl, h⟩
      · have h := hf hc32; clear ht hf
        refine k_bipush C dX6_restore_35 (by decide) 37 rfl ?_
        exact k_iret C dX6_restore_37 ⟨(-3), S_n, T_n, G_s, rfl, by with_reducible rfl, h⟩
    · have h := hf hc13; clear ht hf
      refine k_aload_n C dX6_restore_16 0 rfl rfl 17 rfl ?_
      refine k_get C dX6_restore_17 0 rfl (ci := 6) rfl hin_X6_restore_6 4 (by decide) (List.mem_of_getElem? (i := 1) rfl) rfl 20 rfl ?_
      refine k_goto C dX6_restore_20 27 (by decide) ?_
      refine k_astore_n C dX6_restore_27 rfl (by decide) [(2, .ref (qi 0)), (0, .ref (qh 0)), (1, .int (iI x1))] rfl 28 rfl ?_
      refine k_aload_n C dX6_restore_28 0 rfl rfl 29 rfl ?_
      refine k_getN C dX6_restore_29 13 rfl (ci := 0) rfl hin_X6_restore_0 0 (by decide) (List.mem_of_getElem? (i := 19) rfl) rfl 32 rfl ?_
      obtain ⟨hr32a, h⟩ := h
      obtain ⟨ht, hf⟩ := h
      refine k_if_ne C dX6_restore_32 hr32a 38 35 (by decide) rfl (fun hc32 => ?_) (fun hc32 => ?_)
      · have h := ht hc32; clear ht hf
        refine k_aload_n C dX6_restore_38 1 rfl rfl 39 rfl ?_
        refine k_get C dX6_restore_39 0 rfl (ci := 6) rfl hin_X6_restore_6 0 (by decide) (List.mem_of_getElem? (i := 3) rfl) rfl 42 rfl ?_
        refine k_aload_n C dX6_restore_42 0 rfl rfl 43 rfl ?_
        refine k_getN C dX6_restore_43 13 rfl (ci := 0) rfl hin_X6_restore_0 1 (by decide) (List.mem_of_getElem? (i := 20) rfl) rfl 46 rfl ?_
        have hM := c_X5_become (l := l) (D := D) (cI := cI) (cJ := cJ) (cZ := cZ) qn qiw S_n T_n U_n S_iw T_iw U_iw _ h
        have hs := lapp_split (G := (gI cI cJ cZ qh qn qr qs qp qi qj qw qo qiw qis qjw qjs S_n T_n U_n G_s I_i S_iw T_iw U_iw G_is I_j S_jw T_jw U_jw G_js)) [0, 1, 2, 3, 4, 5, 6, 7, 8] [1, 4] [0, 2, 3, 5, 6, 7, 8] (by decide)
        rw [lapp_9 (gI cI cJ cZ qh qn qr qs qp qi qj qw qo qiw qis qjw qjs S_n T_n U_n G_s I_i S_iw T_iw U_iw G_is I_j S_jw T_jw U_jw G_js) 0 1 2 3 4 5 6 7 8, lapp_2 (gI cI cJ cZ qh qn qr qs qp qi qj qw qo qiw qis qjw qjs S_n T_n U_n G_s I_i S_iw T_iw U_iw G_is I_j S_jw T_jw U_jw G_js) 1 4, gI_0, gI_1, gI_2, gI_3, gI_4, gI_5, gI_6, gI_7, gI_8] at hs
        refine k_callP (wr := lapp (gI cI cJ cZ qh qn qr qs qp qi qj qw qo qiw qis qjw qjs S_n T_n U_n G_s I_i S_iw T_iw U_iw G_is I_j S_jw T_jw U_jw G_js) [0, 2, 3, 5, 6, 7, 8]) C dX6_restore_46 hM gX6_restore_X5_become rfl sg_X5_become 5 rfl rfl rfl (Nat.le_of_ble_eq_true rfl) ⟨⟨rfl, rfl⟩, by decide, by decide⟩ ⟨Nat.le_refl 0, Nat.le_refl 0⟩ hs 0 0 ⟨rfl, rfl⟩ 49 rfl (fun v w1 hq46 => ?_)
        obtain ⟨S_n_46, T_n_46, rfl, rfl, h⟩ := hq46
        have hj := lapp_join (G := (gI cI cJ cZ qh qn qr qs qp qi qj qw qo qiw qis qjw qjs S_n_46 T_n_46 U_n G_s I_i S_iw T_iw U_iw G_is I_j S_jw T_jw U_jw G_js)) [0, 2, 3, 5, 6, 7, 8] [1, 4] [0, 1, 2, 3, 4, 5, 6, 7, 8] (by decide)
        rw [lapp_agr (G := (gI cI cJ cZ qh qn qr qs qp qi qj qw qo qiw qis qjw qjs S_n_46 T_n_46 U_n G_s I_i S_iw T_iw U_iw G_is I_j S_jw T_jw U_jw G_js)) (G' := (gI cI cJ cZ qh qn qr qs qp qi qj qw qo qiw qis qjw qjs S_n T_n U_n G_s I_i S_iw T_iw U_iw G_is I_j S_jw T_jw U_jw G_js)) [0, 2, 3, 5, 6, 7, 8] ⟨rfl, rfl, rfl, rfl, rfl, rfl, rfl, trivial⟩, lapp_9 (gI cI cJ cZ qh qn qr qs qp qi qj qw qo qiw qis qjw qjs S_n_46 T_n_46 U_n G_s I_i S_iw T_iw U_iw G_is I_j S_jw T_jw U_jw G_js) 0 1 2 3 4 5 6 7 8, lapp_2 (gI cI cJ cZ qh qn qr qs qp qi qj qw qo qiw qis qjw qjs S_n_46 T_n_46 U_n G_s I_i S_iw T_iw U_iw G_is I_j S_jw T_jw U_jw G_js) 1 4, gI_0, gI_1, gI_2, gI_3, gI_4, gI_5, gI_6, gI_7, gI_8] at hj
        refine k_permP C hj ?_
        refine k_st (K := K) [] _ rfl rfl ?_
        refine k_aload_n C dX6_restore_49 1 rfl rfl 50 rfl ?_
        refine k_get C dX6_restore_50 0 rfl (ci := 6) rfl hin_X6_restore_6 2 (by decide) (List.mem_of_getElem? (i := 4) rfl) rfl 53 rfl ?_
        refine k_aload_n C dX6_restore_53 0 rfl rfl 54 rfl ?_
        refine k_getN C dX6_restore_54 13 rfl (ci := 0) rfl hin_X6_restore_0 2 (by decide) (List.mem_of_getElem? (i := 21) rfl) rfl 57 rfl ?_
        have hM := c_X4_become (l := l) (D := D) (cI := cI) (cJ := cJ) (cZ := cZ) qs qis G_s G_is _ h
        have hs := lapp_split (G := (gI cI cJ cZ qh qn qr qs qp qi qj qw qo qiw qis qjw qjs S_n_46 T_n_46 U_n G_s I_i S_iw T_iw U_iw G_is I_j S_jw T_jw U_jw G_js)) [0, 1, 2, 3, 4, 5, 6, 7, 8] [2, 5] [0, 1, 3, 4, 6, 7, 8] (by decide)
        rw [lapp_9 (gI cI cJ cZ qh qn qr qs qp qi qj qw qo qiw qis qjw qjs S_n_46 T_n_46 U_n G_s I_i S_iw T_iw U_iw G_is I_j S_jw T_jw U_jw G_js) 0 1 2 3 4 5 6 7 8, lapp_2 (gI cI cJ cZ qh qn qr qs qp qi qj qw qo qiw qis qjw qjs S_n_46 T_n_46 U_n G_s I_i S_iw T_iw U_iw G_is I_j S_jw T_jw U_jw G_js) 2 5, gI_0, gI_1, gI_2, gI_3, gI_4, gI_5, gI_6, gI_7, gI_8] at hs
        refine k_callP (wr := lapp (gI cI cJ cZ qh qn qr qs qp qi qj qw qo qiw qis qjw qjs S_n_46 T_n_46 U_n G_s I_i S_iw T_iw U_iw G_is I_j S_jw T_jw U_jw G_js) [0, 1, 3, 4, 6, 7, 8]) C dX6_restore_57 hM gX6_restore_X4_become rfl sg_X4_become 4 rfl rfl rfl (Nat.le_of_ble_eq_true rfl) ⟨⟨rfl, rfl⟩, by decide, by decide⟩ ⟨Nat.le_refl 0, Nat.le_refl 0⟩ hs 0 0 ⟨rfl, rfl⟩ 60 rfl (fun v w1 hq57 => ?_)
        obtain ⟨G_s_57, rfl, rfl, h⟩ := hq57
        have hj := lapp_join (G := (gI cI cJ cZ qh qn qr qs qp qi qj qw qo qiw qis qjw qjs S_n_46 T_n_46 U_n G_s_57 I_i S_iw T_iw U_iw G_is I_j S_jw T_jw U_jw G_js)) [0, 1, 3, 4, 6, 7, 8] [2, 5] [0, 1, 2, 3, 4, 5, 6, 7, 8] (by decide)
        rw [lapp_agr (G := (gI cI cJ cZ qh qn qr qs qp qi qj qw qo qiw qis qjw qjs S_n_46 T_n_46 U_n G_s_57 I_i S_iw T_iw U_iw G_is I_j S_jw T_jw U_jw G_js)) (G' := (gI cI cJ cZ qh qn qr qs qp qi qj qw qo qiw qis qjw qjs S_n_46 T_n_46 U_n G_s I_i S_iw T_iw U_iw G_is I_j S_jw T_jw U_jw G_js)) [0, 1, 3, 4, 6, 7, 8] ⟨rfl, rfl, rfl, rfl, rfl, rfl, rfl, trivial⟩, lapp_9 (gI cI cJ cZ qh qn qr qs qp qi qj qw qo qiw qis qjw qjs S_n_46 T_n_46 U_n G_s_57 I_i S_iw T_iw U_iw G_is I_j S_jw T_jw U_jw G_js) 0 1 2 3 4 5 6 7 8, lapp_2 (gI cI cJ cZ qh qn qr qs qp qi qj qw qo qiw qis qjw qjs S_n_46 T_n_46 U_n G_s_57 I_i S_iw T_iw U_iw G_is I_j S_jw T_jw U_jw G_js) 2 5, gI_0, gI_1, gI_2, gI_3, gI_4, gI_5, gI_6, gI_7, gI_8] at hj
        refine k_permP C hj ?_
        refine k_st (K := K) [] _ rfl rfl ?_
        refine k_iconst C dX6_restore_60 61 rfl ?_
        exact k_iret C dX6_restore_61 ⟨1, S_n_46, T_n_46, G_s_57, rfl, by with_reducible rfl, h⟩
      · have h := hf hc32; clear ht hf
        refine k_bipush C dX6_restore_35 (by decide) 37 rfl ?_
        exact k_iret C dX6_restore_37 ⟨(-3), S_n, T_n, G_s, rfl, by with_reducible rfl, h⟩
  · have h := hf hc6; clear ht hf
    refine k_bipush C dX6_restore_9 (by decide) 11 rfl ?_
    exact k_iret C dX6_restore_11 ⟨(-2), S_n, T_n, G_s, rfl, by with_reducible rfl, h⟩

/-! image, restore: the class -/
theorem s_image {B : gMB} {N : gMN} {S Si Sj : gWS} {T Ti Tj : gWT} {G Gi Gj : gGG} {H : gMG} {Ii Ij : gII} {k : Int} {Q : Int → gII → gWS → gWT → gGG → gII → gWS → gWT → gGG → Prop} (hS : SR B S) (hT : TR B N T) (hG : GR B.1 G H) (hk : rI k) (h1 : k = 0 → ∀ S' T' G', SR B S' → TR B N T' → GR B.1 G' H → Q 1 1 S' T' G' Ij Sj Tj Gj) (h2 : k = 1 → ∀ S' T' G', SR B S' → TR B N T' → GR B.1 G' H → Q 1 Ii Si Ti Gi 1 S' T' G') (h0 : ¬ (0 ≤ k ∧ k ≤ 1) → Q (-2) Ii Si Ti Gi Ij Sj Tj Gj) : wp_X6_image S T G Ii Si Ti Gi Ij Sj Tj Gj k Q := by
  unfold wp_X6_image
  refine s_isOutside hk (by decide) (by decide) (fun k0 k1 => ⟨fun _ => ⟨hk, fun z => ?_, fun z => ?_⟩, fun q => absurd rfl q⟩) (fun q => ⟨fun z => absurd z (by decide), fun _ => h0 q⟩)
  · exact s_become hS hT (fun S' T' hS' hT' => s_gbecome hG (fun G' hG' => h2 (by omega) S' T' G' hS' hT' hG'))
  · exact s_become hS hT (fun S' T' hS' hT' => s_gbecome hG (fun G' hG' => h1 (by omega) S' T' G' hS' hT' hG'))
theorem s_restore {S Si Sj : gWS} {T Ti Tj : gWT} {G Gi Gj : gGG} {Ii Ij : gII} {k : Int} {Q : Int → gWS → gWT → gGG → Prop} {Bi Bj : gMB} {Ni Nj : gMN} {Hi Hj : gMG} (hi : rI Ii) (hj : rI Ij) (ri : Ii ≠ 0 → SR Bi Si ∧ TR Bi Ni Ti ∧ GR Bi.1 Gi Hi) (rj : Ij ≠ 0 → SR Bj Sj ∧ TR Bj Nj Tj ∧ GR Bj.1 Gj Hj) (hk : rI k) (h1 : k = 0 → Ii ≠ 0 → ∀ S' T' G', SR Bi S' → TR Bi Ni T' → GR Bi.1 G' Hi → Q 1 S' T' G') (h2 : k = 1 → Ij ≠ 0 → ∀ S' T' G', SR Bj S' → TR Bj Nj T' → GR Bj.1 G' Hj → Q 1 S' T' G') (h3 : (k = 0 ∧ Ii = 0) ∨ (k = 1 ∧ Ij = 0) → Q (-3) S T G) (h0 : ¬ (0 ≤ k ∧ k ≤ 1) → Q (-2) S T G) : wp_X6_restore S T G Ii Si Ti Gi Ij Sj Tj Gj k Q := by
  unfold wp_X6_restore
  refine s_isOutside hk (by decide) (by decide) (fun k0 k1 => ⟨fun _ => ⟨hk, fun z => ⟨hj, fun y => ?_, fun y => h3 (Or.inr ⟨by omega, Decidable.of_not_not y⟩)⟩, fun z => ⟨hi, fun y => ?_, fun y => h3 (Or.inl ⟨by omega, Decidable.of_not_not y⟩)⟩⟩, fun q => absurd rfl q⟩) (fun q => ⟨fun z => absurd z (by decide), fun _ => h0 q⟩)
  · obtain ⟨a, b, c⟩ := rj y
    exact s_become a b (fun S' T' hS' hT' => s_gbecome c (fun G' hG' => h2 (by omega) y S' T' G' hS' hT' hG'))
  · obtain ⟨a, b, c⟩ := ri y
    exact s_become a b (fun S' T' hS' hT' => s_gbecome c (fun G' hG' => h1 (by omega) y S' T' G' hS' hT' hG'))
