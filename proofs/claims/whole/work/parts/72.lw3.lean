/-! the law: a step for each call (2) -/
set_option maxHeartbeats 4000000 in
set_option maxRecDepth 20000 in
theorem lst_behind {D : va_G} {A : Nat → Prop} {l : Launch} {K : KT} {cI cJ cZ : ClassId} {q : Nat → Nat → Nat} {b cs sl : Nat} {f : Int → Int} {Ln i : Int} {ws : va_W} (C : KC cL_law RL wsL_law room_1 4 D (kT cI cJ cZ) A l false (fun _ _ => False) 0 0 K) (sld : ∀ {pc n : Nat} {lv : List (Nat × Value)} {st : List Value} {ws : va_W} {i : Int}, decode cL_law pc = .ok (.iaload, 1) → 0 ≤ i → i < Ln → pc + 1 = n → K cs sl n lv (.int (iI (f i)) :: st) ws → K cs sl pc lv (.int (iI i) :: .ref b :: st) ws) (hf : ∀ k, rI (f k)) (hcs : cs + 0 ≤ room_1.cells ∧ sl + 0 ≤ room_1.slots) (i0 : 0 ≤ i) (i1 : i + 4 < Ln) (hR : LRel cI cJ cZ q ws) (nx : ∀ ws', LRel cI cJ cZ q ws' → K cs sl 961 [(3, .int (iI i)), (2, .ref (q 13 0)), (1, .ref (q 0 0)), (0, .ref b)] [] ws') : K cs sl 362 [(3, .int (iI i)), (2, .ref (q 13 0)), (1, .ref (q 0 0)), (0, .ref b)] [] ws := by
  obtain ⟨S_n, T_n, U_n, S_r, T_r, U_r, G_s, P_p, I_i, S_iw, T_iw, U_iw, G_is, I_j, S_jw, T_jw, U_jw, G_js, R_w, OC_o, O_o, B_h, P_h, N_h, L_h, E_h, V_h, G_h, D_h, O_h, Z_h, R_h, I_h, hp, hI, hZ, hS, hT, hG, hP, hN, hi, hj⟩ := hR
  refine k_aload_n C dL_law_362 2 rfl rfl 363 rfl ?_
  refine k_aload_n C dL_law_363 3 rfl rfl 364 rfl ?_
  refine k_iload_n C dL_law_364 0 rfl rfl 365 rfl ?_
  refine k_iconst C dL_law_365 366 rfl ?_
  refine k_iadd C dL_law_366 367 rfl ?_
  refine sld dL_law_367 (by omega) (by omega) rfl ?_
  refine k_aload_n C dL_law_368 3 rfl rfl 369 rfl ?_
  refine k_iload_n C dL_law_369 0 rfl rfl 370 rfl ?_
  refine k_iconst C dL_law_370 371 rfl ?_
  refine k_iadd C dL_law_371 372 rfl ?_
  refine sld dL_law_372 (by omega) (by omega) rfl ?_
  have hM := c_X6_behind (l := l) (D := D) (cI := cI) (cJ := cJ) (cZ := cZ) (q 0) (q 1) (q 2) (q 3) (q 4) (q 5) (q 8) (q 11) (q 12) S_n T_n U_n S_r T_r U_r P_p (f (i + 1)) (f (i + 2)) (fun (r : Int) (S_r' : gWS) (T_r' : gWT) (U_r' : gWU) => r = vBehind B_h D_h P_h (f (i + 1)) (f (i + 2))) (s_behind hI hS hT hP (hf _) (hf _) (fun _ _ _ => rfl))
  have hps := lw_split (G := (gW cI cJ cZ q S_n T_n U_n S_r T_r U_r G_s P_p I_i S_iw T_iw U_iw G_is I_j S_jw T_jw U_jw G_js R_w OC_o O_o B_h P_h N_h L_h E_h V_h G_h D_h O_h Z_h R_h I_h)) [0, 1, 2, 4] [3, 5, 6, 7, 8, 9, 10, 11, 12, 13] hp (by decide)
  rw [lapp_4 (gW cI cJ cZ q S_n T_n U_n S_r T_r U_r G_s P_p I_i S_iw T_iw U_iw G_is I_j S_jw T_jw U_jw G_js R_w OC_o O_o B_h P_h N_h L_h E_h V_h G_h D_h O_h Z_h R_h I_h) 0 1 2 4, gW_0, gW_1, gW_2, gW_4] at hps
  refine k_callP (wr := lapp (gW cI cJ cZ q S_n T_n U_n S_r T_r U_r G_s P_p I_i S_iw T_iw U_iw G_is I_j S_jw T_jw U_jw G_js R_w OC_o O_o B_h P_h N_h L_h E_h V_h G_h D_h O_h Z_h R_h I_h) [3, 5, 6, 7, 8, 9, 10, 11, 12, 13]) C dL_law_373 hM gL_law_X6_behind rfl sg_X6_behind 6 rfl rfl rfl (Nat.le_of_ble_eq_true rfl) ⟨⟨rfl, rfl⟩, Nat.le_of_ble_eq_true rfl, Nat.le_of_ble_eq_true rfl⟩ hcs hps cs sl ⟨rfl, rfl⟩ 376 rfl (fun v w1 hq => ?_)
  obtain ⟨r, S_r', T_r', U_r', rfl, rfl, hc⟩ := hq
  have hpj := lw_join (G := (gW cI cJ cZ q S_n T_n U_n S_r' T_r' U_r' G_s P_p I_i S_iw T_iw U_iw G_is I_j S_jw T_jw U_jw G_js R_w OC_o O_o B_h P_h N_h L_h E_h V_h G_h D_h O_h Z_h R_h I_h)) [3, 5, 6, 7, 8, 9, 10, 11, 12, 13] [0, 1, 2, 4] (by decide)
  rw [lapp_agr (G := (gW cI cJ cZ q S_n T_n U_n S_r' T_r' U_r' G_s P_p I_i S_iw T_iw U_iw G_is I_j S_jw T_jw U_jw G_js R_w OC_o O_o B_h P_h N_h L_h E_h V_h G_h D_h O_h Z_h R_h I_h)) (G' := (gW cI cJ cZ q S_n T_n U_n S_r T_r U_r G_s P_p I_i S_iw T_iw U_iw G_is I_j S_jw T_jw U_jw G_js R_w OC_o O_o B_h P_h N_h L_h E_h V_h G_h D_h O_h Z_h R_h I_h)) [3, 5, 6, 7, 8, 9, 10, 11, 12, 13] ⟨rfl, rfl, rfl, rfl, rfl, rfl, rfl, rfl, rfl, rfl, trivial⟩, lapp_4 (gW cI cJ cZ q S_n T_n U_n S_r' T_r' U_r' G_s P_p I_i S_iw T_iw U_iw G_is I_j S_jw T_jw U_jw G_js R_w OC_o O_o B_h P_h N_h L_h E_h V_h G_h D_h O_h Z_h R_h I_h) 0 1 2 4, gW_0, gW_1, gW_2, gW_4] at hpj
  refine k_permP (ws' := gall (gW cI cJ cZ q S_n T_n U_n S_r' T_r' U_r' G_s P_p I_i S_iw T_iw U_iw G_is I_j S_jw T_jw U_jw G_js R_w OC_o O_o B_h P_h N_h L_h E_h V_h G_h D_h O_h Z_h R_h I_h)) C hpj ?_
  refine k_st (K := K) [.int (iI r)] _ rfl rfl ?_
  refine k_aload_n C dL_law_376 1 rfl rfl 377 rfl ?_
  refine k_aload_n C dL_law_377 3 rfl rfl 378 rfl ?_
  refine k_iload_n C dL_law_378 0 rfl rfl 379 rfl ?_
  refine k_iconst C dL_law_379 380 rfl ?_
  refine k_iadd C dL_law_380 381 rfl ?_
  refine sld dL_law_381 (by omega) (by omega) rfl ?_
  refine k_aload_n C dL_law_382 3 rfl rfl 383 rfl ?_
  refine k_iload_n C dL_law_383 0 rfl rfl 384 rfl ?_
  refine k_iconst C dL_law_384 385 rfl ?_
  refine k_iadd C dL_law_385 386 rfl ?_
  refine sld dL_law_386 (by omega) (by omega) rfl ?_
  have hM := c_X7_behind (l := l) (D := D) (cI := cI) (cJ := cJ) (cZ := cZ) (q 13) B_h P_h N_h L_h E_h V_h G_h D_h O_h Z_h R_h I_h (f (i + 1)) (f (i + 2)) (fun (r : Int) (N_h' : gMN) (L_h' : gML) (E_h' : gME) => r = vBehind B_h D_h P_h (f (i + 1)) (f (i + 2)) ∧ Scr N_h' L_h') (s_X7_behind hI hN hP.2.1 (fun j j0 j1 => (hP.2.2 j j0 j1).2) (hf _) (hf _) (fun N' L' _ h => ⟨rfl, h⟩))
  have hps := lw_split (G := (gW cI cJ cZ q S_n T_n U_n S_r' T_r' U_r' G_s P_p I_i S_iw T_iw U_iw G_is I_j S_jw T_jw U_jw G_js R_w OC_o O_o B_h P_h N_h L_h E_h V_h G_h D_h O_h Z_h R_h I_h)) [13] [0, 1, 2, 3, 4, 5, 6, 7, 8, 9, 10, 11, 12] (List.Perm.refl _) (by decide)
  rw [lapp_1 (gW cI cJ cZ q S_n T_n U_n S_r' T_r' U_r' G_s P_p I_i S_iw T_iw U_iw G_is I_j S_jw T_jw U_jw G_js R_w OC_o O_o B_h P_h N_h L_h E_h V_h G_h D_h O_h Z_h R_h I_h) 13, gW_13] at hps
  refine k_callP (wr := lapp (gW cI cJ cZ q S_n T_n U_n S_r' T_r' U_r' G_s P_p I_i S_iw T_iw U_iw G_is I_j S_jw T_jw U_jw G_js R_w OC_o O_o B_h P_h N_h L_h E_h V_h G_h D_h O_h Z_h R_h I_h) [0, 1, 2, 3, 4, 5, 6, 7, 8, 9, 10, 11, 12]) C dL_law_387 hM gL_law_X7_behind rfl sg_X7_behind 7 rfl rfl rfl (Nat.le_of_ble_eq_true rfl) ⟨⟨rfl, rfl⟩, Nat.le_of_ble_eq_true rfl, Nat.le_of_ble_eq_true rfl⟩ hcs hps cs sl ⟨rfl, rfl⟩ 390 rfl (fun v w1 hq => ?_)
  obtain ⟨r2, N_h', L_h', E_h', rfl, rfl, hm⟩ := hq
  have hpj2 := lw_join (G := (gW cI cJ cZ q S_n T_n U_n S_r' T_r' U_r' G_s P_p I_i S_iw T_iw U_iw G_is I_j S_jw T_jw U_jw G_js R_w OC_o O_o B_h P_h N_h' L_h' E_h' V_h G_h D_h O_h Z_h R_h I_h)) [0, 1, 2, 3, 4, 5, 6, 7, 8, 9, 10, 11, 12] [13] (by decide)
  rw [lapp_agr (G := (gW cI cJ cZ q S_n T_n U_n S_r' T_r' U_r' G_s P_p I_i S_iw T_iw U_iw G_is I_j S_jw T_jw U_jw G_js R_w OC_o O_o B_h P_h N_h' L_h' E_h' V_h G_h D_h O_h Z_h R_h I_h)) (G' := (gW cI cJ cZ q S_n T_n U_n S_r' T_r' U_r' G_s P_p I_i S_iw T_iw U_iw G_is I_j S_jw T_jw U_jw G_js R_w OC_o O_o B_h P_h N_h L_h E_h V_h G_h D_h O_h Z_h R_h I_h)) [0, 1, 2, 3, 4, 5, 6, 7, 8, 9, 10, 11, 12] ⟨rfl, rfl, rfl, rfl, rfl, rfl, rfl, rfl, rfl, rfl, rfl, rfl, rfl, trivial⟩, lapp_1 (gW cI cJ cZ q S_n T_n U_n S_r' T_r' U_r' G_s P_p I_i S_iw T_iw U_iw G_is I_j S_jw T_jw U_jw G_js R_w OC_o O_o B_h P_h N_h' L_h' E_h' V_h G_h D_h O_h Z_h R_h I_h) 13, gW_13] at hpj2
  refine k_permP (ws' := gall (gW cI cJ cZ q S_n T_n U_n S_r' T_r' U_r' G_s P_p I_i S_iw T_iw U_iw G_is I_j S_jw T_jw U_jw G_js R_w OC_o O_o B_h P_h N_h' L_h' E_h' V_h G_h D_h O_h Z_h R_h I_h)) C hpj2 ?_
  refine k_st (K := K) [.int (iI r2), .int (iI r)] _ rfl rfl ?_
  subst hc
  obtain ⟨rfl, hN'⟩ := hm
  exact k_icmp_same C dL_law_390 961 (by decide) (nx _ ⟨S_n, T_n, U_n, S_r', T_r', U_r', G_s, P_p, I_i, S_iw, T_iw, U_iw, G_is, I_j, S_jw, T_jw, U_jw, G_js, R_w, OC_o, O_o, B_h, P_h, N_h', L_h', E_h', V_h, G_h, D_h, O_h, Z_h, R_h, I_h, List.Perm.refl _, hI, hZ, hS, hT, hG, hP, hN', hi, hj⟩)
set_option maxHeartbeats 4000000 in
set_option maxRecDepth 20000 in
theorem lst_height {D : va_G} {A : Nat → Prop} {l : Launch} {K : KT} {cI cJ cZ : ClassId} {q : Nat → Nat → Nat} {b cs sl : Nat} {f : Int → Int} {Ln i : Int} {ws : va_W} (C : KC cL_law RL wsL_law room_1 4 D (kT cI cJ cZ) A l false (fun _ _ => False) 0 0 K) (sld : ∀ {pc n : Nat} {lv : List (Nat × Value)} {st : List Value} {ws : va_W} {i : Int}, decode cL_law pc = .ok (.iaload, 1) → 0 ≤ i → i < Ln → pc + 1 = n → K cs sl n lv (.int (iI (f i)) :: st) ws → K cs sl pc lv (.int (iI i) :: .ref b :: st) ws) (hf : ∀ k, rI (f k)) (hcs : cs + 0 ≤ room_1.cells ∧ sl + 0 ≤ room_1.slots) (i0 : 0 ≤ i) (i1 : i + 4 < Ln) (hR : LRel cI cJ cZ q ws) (nx : ∀ ws', LRel cI cJ cZ q ws' → K cs sl 961 [(3, .int (iI i)), (2, .ref (q 13 0)), (1, .ref (q 0 0)), (0, .ref b)] [] ws') : K cs sl 395 [(3, .int (iI i)), (2, .ref (q 13 0)), (1, .ref (q 0 0)), (0, .ref b)] [] ws := by
  obtain ⟨S_n, T_n, U_n, S_r, T_r, U_r, G_s, P_p, I_i, S_iw, T_iw, U_iw, G_is, I_j, S_jw, T_jw, U_jw, G_js, R_w, OC_o, O_o, B_h, P_h, N_h, L_h, E_h, V_h, G_h, D_h, O_h, Z_h, R_h, I_h, hp, hI, hZ, hS, hT, hG, hP, hN, hi, hj⟩ := hR
  refine k_aload_n C dL_law_395 2 rfl rfl 396 rfl ?_
  refine k_aload_n C dL_law_396 3 rfl rfl 397 rfl ?_
  refine k_iload_n C dL_law_397 0 rfl rfl 398 rfl ?_
  refine k_iconst C dL_law_398 399 rfl ?_
  refine k_iadd C dL_law_399 400 rfl ?_
  refine sld dL_law_400 (by omega) (by omega) rfl ?_
  have hM := c_X6_height (l := l) (D := D) (cI := cI) (cJ := cJ) (cZ := cZ) (q 0) (q 1) (q 2) (q 3) (q 4) (q 5) (q 8) (q 11) (q 12) S_n T_n U_n S_r T_r U_r P_p (f (i + 1)) (fun (r : Int) (S_r' : gWS) (T_r' : gWT) (U_r' : gWU) => r = vHeight B_h D_h P_h (f (i + 1))) (s_height hI hS hT hP (hf _) (fun _ _ _ => rfl))
  have hps := lw_split (G := (gW cI cJ cZ q S_n T_n U_n S_r T_r U_r G_s P_p I_i S_iw T_iw U_iw G_is I_j S_jw T_jw U_jw G_js R_w OC_o O_o B_h P_h N_h L_h E_h V_h G_h D_h O_h Z_h R_h I_h)) [0, 1, 2, 4] [3, 5, 6, 7, 8, 9, 10, 11, 12, 13] hp (by decide)
  rw [lapp_4 (gW cI cJ cZ q S_n T_n U_n S_r T_r U_r G_s P_p I_i S_iw T_iw U_iw G_is I_j S_jw T_jw U_jw G_js R_w OC_o O_o B_h P_h N_h L_h E_h V_h G_h D_h O_h Z_h R_h I_h) 0 1 2 4, gW_0, gW_1, gW_2, gW_4] at hps
  refine k_callP (wr := lapp (gW cI cJ cZ q S_n T_n U_n S_r T_r U_r G_s P_p I_i S_iw T_iw U_iw G_is I_j S_jw T_jw U_jw G_js R_w OC_o O_o B_h P_h N_h L_h E_h V_h G_h D_h O_h Z_h R_h I_h) [3, 5, 6, 7, 8, 9, 10, 11, 12, 13]) C dL_law_401 hM gL_law_X6_height rfl sg_X6_height 6 rfl rfl rfl (Nat.le_of_ble_eq_true rfl) ⟨⟨rfl, rfl⟩, Nat.le_of_ble_eq_true rfl, Nat.le_of_ble_eq_true rfl⟩ hcs hps cs sl ⟨rfl, rfl⟩ 404 rfl (fun v w1 hq => ?_)
  obtain ⟨r, S_r', T_r', U_r', rfl, rfl, hc⟩ := hq
  have hpj := lw_join (G := (gW cI cJ cZ q S_n T_n U_n S_r' T_r' U_r' G_s P_p I_i S_iw T_iw U_iw G_is I_j S_jw T_jw U_jw G_js R_w OC_o O_o B_h P_h N_h L_h E_h V_h G_h D_h O_h Z_h R_h I_h)) [3, 5, 6, 7, 8, 9, 10, 11, 12, 13] [0, 1, 2, 4] (by decide)
  rw [lapp_agr (G := (gW cI cJ cZ q S_n T_n U_n S_r' T_r' U_r' G_s P_p I_i S_iw T_iw U_iw G_is I_j S_jw T_jw U_jw G_js R_w OC_o O_o B_h P_h N_h L_h E_h V_h G_h D_h O_h Z_h R_h I_h)) (G' := (gW cI cJ cZ q S_n T_n U_n S_r T_r U_r G_s P_p I_i S_iw T_iw U_iw G_is I_j S_jw T_jw U_jw G_js R_w OC_o O_o B_h P_h N_h L_h E_h V_h G_h D_h O_h Z_h R_h I_h)) [3, 5, 6, 7, 8, 9, 10, 11, 12, 13] ⟨rfl, rfl, rfl, rfl, rfl, rfl, rfl, rfl, rfl, rfl, trivial⟩, lapp_4 (gW cI cJ cZ q S_n T_n U_n S_r' T_r' U_r' G_s P_p I_i S_iw T_iw U_iw G_is I_j S_jw T_jw U_jw G_js R_w OC_o O_o B_h P_h N_h L_h E_h V_h G_h D_h O_h Z_h R_h I_h) 0 1 2 4, gW_0, gW_1, gW_2, gW_4] at hpj
  refine k_permP (ws' := gall (gW cI cJ cZ q S_n T_n U_n S_r' T_r' U_r' G_s P_p I_i S_iw T_iw U_iw G_is I_j S_jw T_jw U_jw G_js R_w OC_o O_o B_h P_h N_h L_h E_h V_h G_h D_h O_h Z_h R_h I_h)) C hpj ?_
  refine k_st (K := K) [.int (iI r)] _ rfl rfl ?_
  refine k_aload_n C dL_law_404 1 rfl rfl 405 rfl ?_
  refine k_aload_n C dL_law_405 3 rfl rfl 406 rfl ?_
  refine k_iload_n C dL_law_406 0 rfl rfl 407 rfl ?_
  refine k_iconst C dL_law_407 408 rfl ?_
  refine k_iadd C dL_law_408 409 rfl ?_
  refine sld dL_law_409 (by omega) (by omega) rfl ?_
  have hM := c_X7_height (l := l) (D := D) (cI := cI) (cJ := cJ) (cZ := cZ) (q 13) B_h P_h N_h L_h E_h V_h G_h D_h O_h Z_h R_h I_h (f (i + 1)) (fun (r : Int) (N_h' : gMN) (L_h' : gML) (E_h' : gME) => r = vHeight B_h D_h P_h (f (i + 1)) ∧ Scr N_h' L_h') (s_X7_height hI hN hP.2.1 (fun j j0 j1 => (hP.2.2 j j0 j1).2) (hf _) (fun N' L' _ h => ⟨rfl, h⟩))
  have hps := lw_split (G := (gW cI cJ cZ q S_n T_n U_n S_r' T_r' U_r' G_s P_p I_i S_iw T_iw U_iw G_is I_j S_jw T_jw U_jw G_js R_w OC_o O_o B_h P_h N_h L_h E_h V_h G_h D_h O_h Z_h R_h I_h)) [13] [0, 1, 2, 3, 4, 5, 6, 7, 8, 9, 10, 11, 12] (List.Perm.refl _) (by decide)
  rw [lapp_1 (gW cI cJ cZ q S_n T_n U_n S_r' T_r' U_r' G_s P_p I_i S_iw T_iw U_iw G_is I_j S_jw T_jw U_jw G_js R_w OC_o O_o B_h P_h N_h L_h E_h V_h G_h D_h O_h Z_h R_h I_h) 13, gW_13] at hps
  refine k_callP (wr := lapp (gW cI cJ cZ q S_n T_n U_n S_r' T_r' U_r' G_s P_p I_i S_iw T_iw U_iw G_is I_j S_jw T_jw U_jw G_js R_w OC_o O_o B_h P_h N_h L_h E_h V_h G_h D_h O_h Z_h R_h I_h) [0, 1, 2, 3, 4, 5, 6, 7, 8, 9, 10, 11, 12]) C dL_law_410 hM gL_law_X7_height rfl sg_X7_height 7 rfl rfl rfl (Nat.le_of_ble_eq_true rfl) ⟨⟨rfl, rfl⟩, Nat.le_of_ble_eq_true rfl, Nat.le_of_ble_eq_true rfl⟩ hcs hps cs sl ⟨rfl, rfl⟩ 413 rfl (fun v w1 hq => ?_)
  obtain ⟨r2, N_h', L_h', E_h', rfl, rfl, hm⟩ := hq
  have hpj2 := lw_join (G := (gW cI cJ cZ q S_n T_n U_n S_r' T_r' U_r' G_s P_p I_i S_iw T_iw U_iw G_is I_j S_jw T_jw U_jw G_js R_w OC_o O_o B_h P_h N_h' L_h' E_h' V_h G_h D_h O_h Z_h R_h I_h)) [0, 1, 2, 3, 4, 5, 6, 7, 8, 9, 10, 11, 12] [13] (by decide)
  rw [lapp_agr (G := (gW cI cJ cZ q S_n T_n U_n S_r' T_r' U_r' G_s P_p I_i S_iw T_iw U_iw G_is I_j S_jw T_jw U_jw G_js R_w OC_o O_o B_h P_h N_h' L_h' E_h' V_h G_h D_h O_h Z_h R_h I_h)) (G' := (gW cI cJ cZ q S_n T_n U_n S_r' T_r' U_r' G_s P_p I_i S_iw T_iw U_iw G_is I_j S_jw T_jw U_jw G_js R_w OC_o O_o B_h P_h N_h L_h E_h V_h G_h D_h O_h Z_h R_h I_h)) [0, 1, 2, 3, 4, 5, 6, 7, 8, 9, 10, 11, 12] ⟨rfl, rfl, rfl, rfl, rfl, rfl, rfl, rfl, rfl, rfl, rfl, rfl, rfl, trivial⟩, lapp_1 (gW cI cJ cZ q S_n T_n U_n S_r' T_r' U_r' G_s P_p I_i S_iw T_iw U_iw G_is I_j S_jw T_jw U_jw G_js R_w OC_o O_o B_h P_h N_h' L_h' E_h' V_h G_h D_h O_h Z_h R_h I_h) 13, gW_13] at hpj2
  refine k_permP (ws' := gall (gW cI cJ cZ q S_n T_n U_n S_r' T_r' U_r' G_s P_p I_i S_iw T_iw U_iw G_is I_j S_jw T_jw U_jw G_js R_w OC_o O_o B_h P_h N_h' L_h' E_h' V_h G_h D_h O_h Z_h R_h I_h)) C hpj2 ?_
  refine k_st (K := K) [.int (iI r2), .int (iI r)] _ rfl rfl ?_
  subst hc
  obtain ⟨rfl, hN'⟩ := hm
  exact k_icmp_same C dL_law_413 961 (by decide) (nx _ ⟨S_n, T_n, U_n, S_r', T_r', U_r', G_s, P_p, I_i, S_iw, T_iw, U_iw, G_is, I_j, S_jw, T_jw, U_jw, G_js, R_w, OC_o, O_o, B_h, P_h, N_h', L_h', E_h', V_h, G_h, D_h, O_h, Z_h, R_h, I_h, List.Perm.refl _, hI, hZ, hS, hT, hG, hP, hN', hi, hj⟩)
set_option maxHeartbeats 4000000 in
set_option maxRecDepth 20000 in
theorem lst_load {D : va_G} {A : Nat → Prop} {l : Launch} {K : KT} {cI cJ cZ : ClassId} {q : Nat → Nat → Nat} {b cs sl : Nat} {f : Int → Int} {Ln i : Int} {ws : va_W} (C : KC cL_law RL wsL_law room_1 4 D (kT cI cJ cZ) A l false (fun _ _ => False) 0 0 K) (sld : ∀ {pc n : Nat} {lv : List (Nat × Value)} {st : List Value} {ws : va_W} {i : Int}, decode cL_law pc = .ok (.iaload, 1) → 0 ≤ i → i < Ln → pc + 1 = n → K cs sl n lv (.int (iI (f i)) :: st) ws → K cs sl pc lv (.int (iI i) :: .ref b :: st) ws) (hf : ∀ k, rI (f k)) (hcs : cs + 0 ≤ room_1.cells ∧ sl + 0 ≤ room_1.slots) (i0 : 0 ≤ i) (i1 : i + 4 < Ln) (hR : LRel cI cJ cZ q ws) (nx : ∀ ws', LRel cI cJ cZ q ws' → K cs sl 961 [(3, .int (iI i)), (2, .ref (q 13 0)), (1, .ref (q 0 0)), (0, .ref b)] [] ws') : K cs sl 418 [(3, .int (iI i)), (2, .ref (q 13 0)), (1, .ref (q 0 0)), (0, .ref b)] [] ws := by
  obtain ⟨S_n, T_n, U_n, S_r, T_r, U_r, G_s, P_p, I_i, S_iw, T_iw, U_iw, G_is, I_j, S_jw, T_jw, U_jw, G_js, R_w, OC_o, O_o, B_h, P_h, N_h, L_h, E_h, V_h, G_h, D_h, O_h, Z_h, R_h, I_h, hp, hI, hZ, hS, hT, hG, hP, hN, hi, hj⟩ := hR
  refine k_aload_n C dL_law_418 2 rfl rfl 419 rfl ?_
  refine k_aload_n C dL_law_419 3 rfl rfl 420 rfl ?_
  refine k_iload_n C dL_law_420 0 rfl rfl 421 rfl ?_
  refine k_iconst C dL_law_421 422 rfl ?_
  refine k_iadd C dL_law_422 423 rfl ?_
  refine sld dL_law_423 (by omega) (by omega) rfl ?_
  refine k_aload_n C dL_law_424 3 rfl rfl 425 rfl ?_
  refine k_iload_n C dL_law_425 0 rfl rfl 426 rfl ?_
  refine k_iconst C dL_law_426 427 rfl ?_
  refine k_iadd C dL_law_427 428 rfl ?_
  refine sld dL_law_428 (by omega) (by omega) rfl ?_
  have hM := c_X6_load (l := l) (D := D) (cI := cI) (cJ := cJ) (cZ := cZ) (q 0) (q 1) (q 2) (q 3) (q 4) (q 5) (q 8) (q 11) (q 12) S_n T_n U_n (f (i + 1)) (f (i + 2)) (fun (r : Int) (U_n' : gWU) => r = vLoad B_h P_h (f (i + 1)) (f (i + 2))) (s_load hI hS hT  (hf _) (hf _) (fun _ => rfl))
  have hps := lw_split (G := (gW cI cJ cZ q S_n T_n U_n S_r T_r U_r G_s P_p I_i S_iw T_iw U_iw G_is I_j S_jw T_jw U_jw G_js R_w OC_o O_o B_h P_h N_h L_h E_h V_h G_h D_h O_h Z_h R_h I_h)) [0, 1] [2, 3, 4, 5, 6, 7, 8, 9, 10, 11, 12, 13] hp (by decide)
  rw [lapp_2 (gW cI cJ cZ q S_n T_n U_n S_r T_r U_r G_s P_p I_i S_iw T_iw U_iw G_is I_j S_jw T_jw U_jw G_js R_w OC_o O_o B_h P_h N_h L_h E_h V_h G_h D_h O_h Z_h R_h I_h) 0 1, gW_0, gW_1] at hps
  refine k_callP (wr := lapp (gW cI cJ cZ q S_n T_n U_n S_r T_r U_r G_s P_p I_i S_iw T_iw U_iw G_is I_j S_jw T_jw U_jw G_js R_w OC_o O_o B_h P_h N_h L_h E_h V_h G_h D_h O_h Z_h R_h I_h) [2, 3, 4, 5, 6, 7, 8, 9, 10, 11, 12, 13]) C dL_law_429 hM gL_law_X6_load rfl sg_X6_load 6 rfl rfl rfl (Nat.le_of_ble_eq_true rfl) ⟨⟨rfl, rfl⟩, Nat.le_of_ble_eq_true rfl, Nat.le_of_ble_eq_true rfl⟩ hcs hps cs sl ⟨rfl, rfl⟩ 432 rfl (fun v w1 hq => ?_)
  obtain ⟨r, U_n', rfl, rfl, hc⟩ := hq
  have hpj := lw_join (G := (gW cI cJ cZ q S_n T_n U_n' S_r T_r U_r G_s P_p I_i S_iw T_iw U_iw G_is I_j S_jw T_jw U_jw G_js R_w OC_o O_o B_h P_h N_h L_h E_h V_h G_h D_h O_h Z_h R_h I_h)) [2, 3, 4, 5, 6, 7, 8, 9, 10, 11, 12, 13] [0, 1] (by decide)
  rw [lapp_agr (G := (gW cI cJ cZ q S_n T_n U_n' S_r T_r U_r G_s P_p I_i S_iw T_iw U_iw G_is I_j S_jw T_jw U_jw G_js R_w OC_o O_o B_h P_h N_h L_h E_h V_h G_h D_h O_h Z_h R_h I_h)) (G' := (gW cI cJ cZ q S_n T_n U_n S_r T_r U_r G_s P_p I_i S_iw T_iw U_iw G_is I_j S_jw T_jw U_jw G_js R_w OC_o O_o B_h P_h N_h L_h E_h V_h G_h D_h O_h Z_h R_h I_h)) [2, 3, 4, 5, 6, 7, 8, 9, 10, 11, 12, 13] ⟨rfl, rfl, rfl, rfl, rfl, rfl, rfl, rfl, rfl, rfl, rfl, rfl, trivial⟩, lapp_2 (gW cI cJ cZ q S_n T_n U_n' S_r T_r U_r G_s P_p I_i S_iw T_iw U_iw G_is I_j S_jw T_jw U_jw G_js R_w OC_o O_o B_h P_h N_h L_h E_h V_h G_h D_h O_h Z_h R_h I_h) 0 1, gW_0, gW_1] at hpj
  refine k_permP (ws' := gall (gW cI cJ cZ q S_n T_n U_n' S_r T_r U_r G_s P_p I_i S_iw T_iw U_iw G_is I_j S_jw T_jw U_jw G_js R_w OC_o O_o B_h P_h N_h L_h E_h V_h G_h D_h O_h Z_h R_h I_h)) C hpj ?_
  refine k_st (K := K) [.long (lL r)] _ rfl rfl ?_
  refine k_aload_n C dL_law_432 1 rfl rfl 433 rfl ?_
  refine k_aload_n C dL_law_433 3 rfl rfl 434 rfl ?_
  refine k_iload_n C dL_law_434 0 rfl rfl 435 rfl ?_
  refine k_iconst C dL_law_435 436 rfl ?_
  refine k_iadd C dL_law_436 437 rfl ?_
  refine sld dL_law_437 (by omega) (by omega) rfl ?_
  refine k_aload_n C dL_law_438 3 rfl rfl 439 rfl ?_
  refine k_iload_n C dL_law_439 0 rfl rfl 440 rfl ?_
  refine k_iconst C dL_law_440 441 rfl ?_
  refine k_iadd C dL_law_441 442 rfl ?_
  refine sld dL_law_442 (by omega) (by omega) rfl ?_
  have hM := c_X7_load (l := l) (D := D) (cI := cI) (cJ := cJ) (cZ := cZ) (q 13) B_h P_h N_h L_h E_h V_h G_h D_h O_h Z_h R_h I_h (f (i + 1)) (f (i + 2)) (fun (r : Int) (N_h' : gMN) (L_h' : gML) => r = vLoad B_h P_h (f (i + 1)) (f (i + 2)) ∧ Scr N_h' L_h') (s_X7_load hI hN  (hf _) (hf _) (fun N' L' h => ⟨rfl, h⟩))
  have hps := lw_split (G := (gW cI cJ cZ q S_n T_n U_n' S_r T_r U_r G_s P_p I_i S_iw T_iw U_iw G_is I_j S_jw T_jw U_jw G_js R_w OC_o O_o B_h P_h N_h L_h E_h V_h G_h D_h O_h Z_h R_h I_h)) [13] [0, 1, 2, 3, 4, 5, 6, 7, 8, 9, 10, 11, 12] (List.Perm.refl _) (by decide)
  rw [lapp_1 (gW cI cJ cZ q S_n T_n U_n' S_r T_r U_r G_s P_p I_i S_iw T_iw U_iw G_is I_j S_jw T_jw U_jw G_js R_w OC_o O_o B_h P_h N_h L_h E_h V_h G_h D_h O_h Z_h R_h I_h) 13, gW_13] at hps
  refine k_callP (wr := lapp (gW cI cJ cZ q S_n T_n U_n' S_r T_r U_r G_s P_p I_i S_iw T_iw U_iw G_is I_j S_jw T_jw U_jw G_js R_w OC_o O_o B_h P_h N_h L_h E_h V_h G_h D_h O_h Z_h R_h I_h) [0, 1, 2, 3, 4, 5, 6, 7, 8, 9, 10, 11, 12]) C dL_law_443 hM gL_law_X7_load rfl sg_X7_load 7 rfl rfl rfl (Nat.le_of_ble_eq_true rfl) ⟨⟨rfl, rfl⟩, Nat.le_of_ble_eq_true rfl, Nat.le_of_ble_eq_true rfl⟩ hcs hps cs sl ⟨rfl, rfl⟩ 446 rfl (fun v w1 hq => ?_)
  obtain ⟨r2, N_h', L_h', rfl, rfl, hm⟩ := hq
  have hpj2 := lw_join (G := (gW cI cJ cZ q S_n T_n U_n' S_r T_r U_r G_s P_p I_i S_iw T_iw U_iw G_is I_j S_jw T_jw U_jw G_js R_w OC_o O_o B_h P_h N_h' L_h' E_h V_h G_h D_h O_h Z_h R_h I_h)) [0, 1, 2, 3, 4, 5, 6, 7, 8, 9, 10, 11, 12] [13] (by decide)
  rw [lapp_agr (G := (gW cI cJ cZ q S_n T_n U_n' S_r T_r U_r G_s P_p I_i S_iw T_iw U_iw G_is I_j S_jw T_jw U_jw G_js R_w OC_o O_o B_h P_h N_h' L_h' E_h V_h G_h D_h O_h Z_h R_h I_h)) (G' := (gW cI cJ cZ q S_n T_n U_n' S_r T_r U_r G_s P_p I_i S_iw T_iw U_iw G_is I_j S_jw T_jw U_jw G_js R_w OC_o O_o B_h P_h N_h L_h E_h V_h G_h D_h O_h Z_h R_h I_h)) [0, 1, 2, 3, 4, 5, 6, 7, 8, 9, 10, 11, 12] ⟨rfl, rfl, rfl, rfl, rfl, rfl, rfl, rfl, rfl, rfl, rfl, rfl, rfl, trivial⟩, lapp_1 (gW cI cJ cZ q S_n T_n U_n' S_r T_r U_r G_s P_p I_i S_iw T_iw U_iw G_is I_j S_jw T_jw U_jw G_js R_w OC_o O_o B_h P_h N_h' L_h' E_h V_h G_h D_h O_h Z_h R_h I_h) 13, gW_13] at hpj2
  refine k_permP (ws' := gall (gW cI cJ cZ q S_n T_n U_n' S_r T_r U_r G_s P_p I_i S_iw T_iw U_iw G_is I_j S_jw T_jw U_jw G_js R_w OC_o O_o B_h P_h N_h' L_h' E_h V_h G_h D_h O_h Z_h R_h I_h)) C hpj2 ?_
  refine k_st (K := K) [.long (lL r2), .long (lL r)] _ rfl rfl ?_
  subst hc
  obtain ⟨rfl, hN'⟩ := hm
  refine k_lcmp_same C dL_law_446 447 rfl ?_
  exact k_if_eq C dL_law_447 rI_0 961 450 (by decide) rfl (fun _ => nx _ ⟨S_n, T_n, U_n', S_r, T_r, U_r, G_s, P_p, I_i, S_iw, T_iw, U_iw, G_is, I_j, S_jw, T_jw, U_jw, G_js, R_w, OC_o, O_o, B_h, P_h, N_h', L_h', E_h, V_h, G_h, D_h, O_h, Z_h, R_h, I_h, List.Perm.refl _, hI, hZ, hS, hT, hG, hP, hN', hi, hj⟩) (fun z => absurd rfl z)
set_option maxHeartbeats 4000000 in
set_option maxRecDepth 20000 in
theorem lst_strain {D : va_G} {A : Nat → Prop} {l : Launch} {K : KT} {cI cJ cZ : ClassId} {q : Nat → Nat → Nat} {b cs sl : Nat} {f : Int → Int} {Ln i : Int} {ws : va_W} (C : KC cL_law RL wsL_law room_1 4 D (kT cI cJ cZ) A l false (fun _ _ => False) 0 0 K) (sld : ∀ {pc n : Nat} {lv : List (Nat × Value)} {st : List Value} {ws : va_W} {i : Int}, decode cL_law pc = .ok (.iaload, 1) → 0 ≤ i → i < Ln → pc + 1 = n → K cs sl n lv (.int (iI (f i)) :: st) ws → K cs sl pc lv (.int (iI i) :: .ref b :: st) ws) (hf : ∀ k, rI (f k)) (hcs : cs + 0 ≤ room_1.cells ∧ sl + 0 ≤ room_1.slots) (i0 : 0 ≤ i) (i1 : i + 4 < Ln) (hR : LRel cI cJ cZ q ws) (nx : ∀ ws', LRel cI cJ cZ q ws' → K cs sl 961 [(3, .int (iI i)), (2, .ref (q 13 0)), (1, .ref (q 0 0)), (0, .ref b)] [] ws') : K cs sl 452 [(3, .int (iI i)), (2, .ref (q 13 0)), (1, .ref (q 0 0)), (0, .ref b)] [] ws := by
  obtain ⟨S_n, T_n, U_n, S_r, T_r, U_r, G_s, P_p, I_i, S_iw, T_iw, U_iw, G_is, I_j, S_jw, T_jw, U_jw, G_js, R_w, OC_o, O_o, B_h, P_h, N_h, L_h, E_h, V_h, G_h, D_h, O_h, Z_h, R_h, I_h, hp, hI, hZ, hS, hT, hG, hP, hN, hi, hj⟩ := hR
  refine k_aload_n C dL_law_452 2 rfl rfl 453 rfl ?_
  refine k_aload_n C dL_law_453 3 rfl rfl 454 rfl ?_
  refine k_iload_n C dL_law_454 0 rfl rfl 455 rfl ?_
  refine k_iconst C dL_law_455 456 rfl ?_
  refine k_iadd C dL_law_456 457 rfl ?_
  refine sld dL_law_457 (by omega) (by omega) rfl ?_
  have hM := c_X6_strain (l := l) (D := D) (cI := cI) (cJ := cJ) (cZ := cZ) (q 0) (q 1) (q 2) (q 3) (q 4) (q 5) (q 8) (q 11) (q 12) S_n T_n U_n (f (i + 1)) (fun (r : Int) (U_n' : gWU) => r = vStrain B_h P_h (f (i + 1))) (s_strain hI hS hT  (hf _) (fun _ => rfl))
  have hps := lw_split (G := (gW cI cJ cZ q S_n T_n U_n S_r T_r U_r G_s P_p I_i S_iw T_iw U_iw G_is I_j S_jw T_jw U_jw G_js R_w OC_o O_o B_h P_h N_h L_h E_h V_h G_h D_h O_h Z_h R_h I_h)) [0, 1] [2, 3, 4, 5, 6, 7, 8, 9, 10, 11, 12, 13] hp (by decide)
  rw [lapp_2 (gW cI cJ cZ q S_n T_n U_n S_r T_r U_r G_s P_p I_i S_iw T_iw U_iw G_is I_j S_jw T_jw U_jw G_js R_w OC_o O_o B_h P_h N_h L_h E_h V_h G_h D_h O_h Z_h R_h I_h) 0 1, gW_0, gW_1] at hps
  refine k_callP (wr := lapp (gW cI cJ cZ q S_n T_n U_n S_r T_r U_r G_s P_p I_i S_iw T_iw U_iw G_is I_j S_jw T_jw U_jw G_js R_w OC_o O_o B_h P_h N_h L_h E_h V_h G_h D_h O_h Z_h R_h I_h) [2, 3, 4, 5, 6, 7, 8, 9, 10, 11, 12, 13]) C dL_law_458 hM gL_law_X6_strain rfl sg_X6_strain 6 rfl rfl rfl (Nat.le_of_ble_eq_true rfl) ⟨⟨rfl, rfl⟩, Nat.le_of_ble_eq_true rfl, Nat.le_of_ble_eq_true rfl⟩ hcs hps cs sl ⟨rfl, rfl⟩ 461 rfl (fun v w1 hq => ?_)
  obtain ⟨r, U_n', rfl, rfl, hc⟩ := hq
  have hpj := lw_join (G := (gW cI cJ cZ q S_n T_n U_n' S_r T_r U_r G_s P_p I_i S_iw T_iw U_iw G_is I_j S_jw T_jw U_jw G_js R_w OC_o O_o B_h P_h N_h L_h E_h V_h G_h D_h O_h Z_h R_h I_h)) [2, 3, 4, 5, 6, 7, 8, 9, 10, 11, 12, 13] [0, 1] (by decide)
  rw [lapp_agr (G := (gW cI cJ cZ q S_n T_n U_n' S_r T_r U_r G_s P_p I_i S_iw T_iw U_iw G_is I_j S_jw T_jw U_jw G_js R_w OC_o O_o B_h P_h N_h L_h E_h V_h G_h D_h O_h Z_h R_h I_h)) (G' := (gW cI cJ cZ q S_n T_n U_n S_r T_r U_r G_s P_p I_i S_iw T_iw U_iw G_is I_j S_jw T_jw U_jw G_js R_w OC_o O_o B_h P_h N_h L_h E_h V_h G_h D_h O_h Z_h R_h I_h)) [2, 3, 4, 5, 6, 7, 8, 9, 10, 11, 12, 13] ⟨rfl, rfl, rfl, rfl, rfl, rfl, rfl, rfl, rfl, rfl, rfl, rfl, trivial⟩, lapp_2 (gW cI cJ cZ q S_n T_n U_n' S_r T_r U_r G_s P_p I_i S_iw T_iw U_iw G_is I_j S_jw T_jw U_jw G_js R_w OC_o O_o B_h P_h N_h L_h E_h V_h G_h D_h O_h Z_h R_h I_h) 0 1, gW_0, gW_1] at hpj
  refine k_permP (ws' := gall (gW cI cJ cZ q S_n T_n U_n' S_r T_r U_r G_s P_p I_i S_iw T_iw U_iw G_is I_j S_jw T_jw U_jw G_js R_w OC_o O_o B_h P_h N_h L_h E_h V_h G_h D_h O_h Z_h R_h I_h)) C hpj ?_
  refine k_st (K := K) [.long (lL r)] _ rfl rfl ?_
  refine k_aload_n C dL_law_461 1 rfl rfl 462 rfl ?_
  refine k_aload_n C dL_law_462 3 rfl rfl 463 rfl ?_
  refine k_iload_n C dL_law_463 0 rfl rfl 464 rfl ?_
  refine k_iconst C dL_law_464 465 rfl ?_
  refine k_iadd C dL_law_465 466 rfl ?_
  refine sld dL_law_466 (by omega) (by omega) rfl ?_
  have hM := c_X7_strain (l := l) (D := D) (cI := cI) (cJ := cJ) (cZ := cZ) (q 13) B_h P_h N_h L_h E_h V_h G_h D_h O_h Z_h R_h I_h (f (i + 1)) (fun (r : Int) (N_h' : gMN) (L_h' : gML) (V_h' : gMV) => r = vStrain B_h P_h (f (i + 1)) ∧ Scr N_h' L_h') (s_X7_strain hI hN  (hf _) (fun N' L' _ h => ⟨rfl, h⟩))
  have hps := lw_split (G := (gW cI cJ cZ q S_n T_n U_n' S_r T_r U_r G_s P_p I_i S_iw T_iw U_iw G_is I_j S_jw T_jw U_jw G_js R_w OC_o O_o B_h P_h N_h L_h E_h V_h G_h D_h O_h Z_h R_h I_h)) [13] [0, 1, 2, 3, 4, 5, 6, 7, 8, 9, 10, 11, 12] (List.Perm.refl _) (by decide)
  rw [lapp_1 (gW cI cJ cZ q S_n T_n U_n' S_r T_r U_r G_s P_p I_i S_iw T_iw U_iw G_is I_j S_jw T_jw U_jw G_js R_w OC_o O_o B_h P_h N_h L_h E_h V_h G_h D_h O_h Z_h R_h I_h) 13, gW_13] at hps
  refine k_callP (wr := lapp (gW cI cJ cZ q S_n T_n U_n' S_r T_r U_r G_s P_p I_i S_iw T_iw U_iw G_is I_j S_jw T_jw U_jw G_js R_w OC_o O_o B_h P_h N_h L_h E_h V_h G_h D_h O_h Z_h R_h I_h) [0, 1, 2, 3, 4, 5, 6, 7, 8, 9, 10, 11, 12]) C dL_law_467 hM gL_law_X7_strain rfl sg_X7_strain 7 rfl rfl rfl (Nat.le_of_ble_eq_true rfl) ⟨⟨rfl, rfl⟩, Nat.le_of_ble_eq_true rfl, Nat.le_of_ble_eq_true rfl⟩ hcs hps cs sl ⟨rfl, rfl⟩ 470 rfl (fun v w1 hq => ?_)
  obtain ⟨r2, N_h', L_h', V_h', rfl, rfl, hm⟩ := hq
  have hpj2 := lw_join (G := (gW cI cJ cZ q S_n T_n U_n' S_r T_r U_r G_s P_p I_i S_iw T_iw U_iw G_is I_j S_jw T_jw U_jw G_js R_w OC_o O_o B_h P_h N_h' L_h' E_h V_h' G_h D_h O_h Z_h R_h I_h)) [0, 1, 2, 3, 4, 5, 6, 7, 8, 9, 10, 11, 12] [13] (by decide)
  rw [lapp_agr (G := (gW cI cJ cZ q S_n T_n U_n' S_r T_r U_r G_s P_p I_i S_iw T_iw U_iw G_is I_j S_jw T_jw U_jw G_js R_w OC_o O_o B_h P_h N_h' L_h' E_h V_h' G_h D_h O_h Z_h R_h I_h)) (G' := (gW cI cJ cZ q S_n T_n U_n' S_r T_r U_r G_s P_p I_i S_iw T_iw U_iw G_is I_j S_jw T_jw U_jw G_js R_w OC_o O_o B_h P_h N_h L_h E_h V_h G_h D_h O_h Z_h R_h I_h)) [0, 1, 2, 3, 4, 5, 6, 7, 8, 9, 10, 11, 12] ⟨rfl, rfl, rfl, rfl, rfl, rfl, rfl, rfl, rfl, rfl, rfl, rfl, rfl, trivial⟩, lapp_1 (gW cI cJ cZ q S_n T_n U_n' S_r T_r U_r G_s P_p I_i S_iw T_iw U_iw G_is I_j S_jw T_jw U_jw G_js R_w OC_o O_o B_h P_h N_h' L_h' E_h V_h' G_h D_h O_h Z_h R_h I_h) 13, gW_13] at hpj2
  refine k_permP (ws' := gall (gW cI cJ cZ q S_n T_n U_n' S_r T_r U_r G_s P_p I_i S_iw T_iw U_iw G_is I_j S_jw T_jw U_jw G_js R_w OC_o O_o B_h P_h N_h' L_h' E_h V_h' G_h D_h O_h Z_h R_h I_h)) C hpj2 ?_
  refine k_st (K := K) [.long (lL r2), .long (lL r)] _ rfl rfl ?_
  subst hc
  obtain ⟨rfl, hN'⟩ := hm
  refine k_lcmp_same C dL_law_470 471 rfl ?_
  exact k_if_eq C dL_law_471 rI_0 961 474 (by decide) rfl (fun _ => nx _ ⟨S_n, T_n, U_n', S_r, T_r, U_r, G_s, P_p, I_i, S_iw, T_iw, U_iw, G_is, I_j, S_jw, T_jw, U_jw, G_js, R_w, OC_o, O_o, B_h, P_h, N_h', L_h', E_h, V_h', G_h, D_h, O_h, Z_h, R_h, I_h, List.Perm.refl _, hI, hZ, hS, hT, hG, hP, hN', hi, hj⟩) (fun z => absurd rfl z)
set_option maxHeartbeats 4000000 in
set_option maxRecDepth 20000 in
theorem lst_bulges {D : va_G} {A : Nat → Prop} {l : Launch} {K : KT} {cI cJ cZ : ClassId} {q : Nat → Nat → Nat} {b cs sl : Nat} {f : Int → Int} {Ln i : Int} {ws : va_W} (C : KC cL_law RL wsL_law room_1 4 D (kT cI cJ cZ) A l false (fun _ _ => False) 0 0 K) (sld : ∀ {pc n : Nat} {lv : List (Nat × Value)} {st : List Value} {ws : va_W} {i : Int}, decode cL_law pc = .ok (.iaload, 1) → 0 ≤ i → i < Ln → pc + 1 = n → K cs sl n lv (.int (iI (f i)) :: st) ws → K cs sl pc lv (.int (iI i) :: .ref b :: st) ws) (hf : ∀ k, rI (f k)) (hcs : cs + 0 ≤ room_1.cells ∧ sl + 0 ≤ room_1.slots) (i0 : 0 ≤ i) (i1 : i + 4 < Ln) (hR : LRel cI cJ cZ q ws) (nx : ∀ ws', LRel cI cJ cZ q ws' → K cs sl 961 [(3, .int (iI i)), (2, .ref (q 13 0)), (1, .ref (q 0 0)), (0, .ref b)] [] ws') : K cs sl 476 [(3, .int (iI i)), (2, .ref (q 13 0)), (1, .ref (q 0 0)), (0, .ref b)] [] ws := by
  obtain ⟨S_n, T_n, U_n, S_r, T_r, U_r, G_s, P_p, I_i, S_iw, T_iw, U_iw, G_is, I_j, S_jw, T_jw, U_jw, G_js, R_w, OC_o, O_o, B_h, P_h, N_h, L_h, E_h, V_h, G_h, D_h, O_h, Z_h, R_h, I_h, hp, hI, hZ, hS, hT, hG, hP, hN, hi, hj⟩ := hR
  refine k_aload_n C dL_law_476 2 rfl rfl 477 rfl ?_
  have hM := c_X6_bulges (l := l) (D := D) (cI := cI) (cJ := cJ) (cZ := cZ) (q 0) (q 1) (q 2) (q 3) (q 4) (q 5) (q 8) (q 11) (q 12) S_n T_n U_n (fun (r : Int) (U_n' : gWU) => r = vBulges B_h P_h) (s_bulges hI hS hT   (fun _ => rfl))
  have hps := lw_split (G := (gW cI cJ cZ q S_n T_n U_n S_r T_r U_r G_s P_p I_i S_iw T_iw U_iw G_is I_j S_jw T_jw U_jw G_js R_w OC_o O_o B_h P_h N_h L_h E_h V_h G_h D_h O_h Z_h R_h I_h)) [0, 1] [2, 3, 4, 5, 6, 7, 8, 9, 10, 11, 12, 13] hp (by decide)
  rw [lapp_2 (gW cI cJ cZ q S_n T_n U_n S_r T_r U_r G_s P_p I_i S_iw T_iw U_iw G_is I_j S_jw T_jw U_jw G_js R_w OC_o O_o B_h P_h N_h L_h E_h V_h G_h D_h O_h Z_h R_h I_h) 0 1, gW_0, gW_1] at hps
  refine k_callP (wr := lapp (gW cI cJ cZ q S_n T_n U_n S_r T_r U_r G_s P_p I_i S_iw T_iw U_iw G_is I_j S_jw T_jw U_jw G_js R_w OC_o O_o B_h P_h N_h L_h E_h V_h G_h D_h O_h Z_h R_h I_h) [2, 3, 4, 5, 6, 7, 8, 9, 10, 11, 12, 13]) C dL_law_477 hM gL_law_X6_bulges rfl sg_X6_bulges 6 rfl rfl rfl (Nat.le_of_ble_eq_true rfl) ⟨⟨rfl, rfl⟩, Nat.le_of_ble_eq_true rfl, Nat.le_of_ble_eq_true rfl⟩ hcs hps cs sl ⟨rfl, rfl⟩ 480 rfl (fun v w1 hq => ?_)
  obtain ⟨r, U_n', rfl, rfl, hc⟩ := hq
  have hpj := lw_join (G := (gW cI cJ cZ q S_n T_n U_n' S_r T_r U_r G_s P_p I_i S_iw T_iw U_iw G_is I_j S_jw T_jw U_jw G_js R_w OC_o O_o B_h P_h N_h L_h E_h V_h G_h D_h O_h Z_h R_h I_h)) [2, 3, 4, 5, 6, 7, 8, 9, 10, 11, 12, 13] [0, 1] (by decide)
  rw [lapp_agr (G := (gW cI cJ cZ q S_n T_n U_n' S_r T_r U_r G_s P_p I_i S_iw T_iw U_iw G_is I_j S_jw T_jw U_jw G_js R_w OC_o O_o B_h P_h N_h L_h E_h V_h G_h D_h O_h Z_h R_h I_h)) (G' := (gW cI cJ cZ q S_n T_n U_n S_r T_r U_r G_s P_p I_i S_iw T_iw U_iw G_is I_j S_jw T_jw U_jw G_js R_w OC_o O_o B_h P_h N_h L_h E_h V_h G_h D_h O_h Z_h R_h I_h)) [2, 3, 4, 5, 6, 7, 8, 9, 10, 11, 12, 13] ⟨rfl, rfl, rfl, rfl, rfl, rfl, rfl, rfl, rfl, rfl, rfl, rfl, trivial⟩, lapp_2 (gW cI cJ cZ q S_n T_n U_n' S_r T_r U_r G_s P_p I_i S_iw T_iw U_iw G_is I_j S_jw T_jw U_jw G_js R_w OC_o O_o B_h P_h N_h L_h E_h V_h G_h D_h O_h Z_h R_h I_h) 0 1, gW_0, gW_1] at hpj
  refine k_permP (ws' := gall (gW cI cJ cZ q S_n T_n U_n' S_r T_r U_r G_s P_p I_i S_iw T_iw U_iw G_is I_j S_jw T_jw U_jw G_js R_w OC_o O_o B_h P_h N_h L_h E_h V_h G_h D_h O_h Z_h R_h I_h)) C hpj ?_
  refine k_st (K := K) [.int (iI r)] _ rfl rfl ?_
  refine k_aload_n C dL_law_480 1 rfl rfl 481 rfl ?_
  have hM := c_X7_bulges (l := l) (D := D) (cI := cI) (cJ := cJ) (cZ := cZ) (q 13) B_h P_h N_h L_h E_h V_h G_h D_h O_h Z_h R_h I_h (fun (r : Int) (N_h' : gMN) (L_h' : gML) => r = vBulges B_h P_h ∧ Scr N_h' L_h') (s_X7_bulges hI hN   (fun N' L' h => ⟨rfl, h⟩))
  have hps := lw_split (G := (gW cI cJ cZ q S_n T_n U_n' S_r T_r U_r G_s P_p I_i S_iw T_iw U_iw G_is I_j S_jw T_jw U_jw G_js R_w OC_o O_o B_h P_h N_h L_h E_h V_h G_h D_h O_h Z_h R_h I_h)) [13] [0, 1, 2, 3, 4, 5, 6, 7, 8, 9, 10, 11, 12] (List.Perm.refl _) (by decide)
  rw [lapp_1 (gW cI cJ cZ q S_n T_n U_n' S_r T_r U_r G_s P_p I_i S_iw T_iw U_iw G_is I_j S_jw T_jw U_jw G_js R_w OC_o O_o B_h P_h N_h L_h E_h V_h G_h D_h O_h Z_h R_h I_h) 13, gW_13] at hps
  refine k_callP (wr := lapp (gW cI cJ cZ q S_n T_n U_n' S_r T_r U_r G_s P_p I_i S_iw T_iw U_iw G_is I_j S_jw T_jw U_jw G_js R_w OC_o O_o B_h P_h N_h L_h E_h V_h G_h D_h O_h Z_h R_h I_h) [0, 1, 2, 3, 4, 5, 6, 7, 8, 9, 10, 11, 12]) C dL_law_481 hM gL_law_X7_bulges rfl sg_X7_bulges 7 rfl rfl rfl (Nat.le_of_ble_eq_true rfl) ⟨⟨rfl, rfl⟩, Nat.le_of_ble_eq_true rfl, Nat.le_of_ble_eq_true rfl⟩ hcs hps cs sl ⟨rfl, rfl⟩ 484 rfl (fun v w1 hq => ?_)
  obtain ⟨r2, N_h', L_h', rfl, rfl, hm⟩ := hq
  have hpj2 := lw_join (G := (gW cI cJ cZ q S_n T_n U_n' S_r T_r U_r G_s P_p I_i S_iw T_iw U_iw G_is I_j S_jw T_jw U_jw G_js R_w OC_o O_o B_h P_h N_h' L_h' E_h V_h G_h D_h O_h Z_h R_h I_h)) [0, 1, 2, 3, 4, 5, 6, 7, 8, 9, 10, 11, 12] [13] (by decide)
  rw [lapp_agr (G := (gW cI cJ cZ q S_n T_n U_n' S_r T_r U_r G_s P_p I_i S_iw T_iw U_iw G_is I_j S_jw T_jw U_jw G_js R_w OC_o O_o B_h P_h N_h' L_h' E_h V_h G_h D_h O_h Z_h R_h I_h)) (G' := (gW cI cJ cZ q S_n T_n U_n' S_r T_r U_r G_s P_p I_i S_iw T_iw U_iw G_is I_j S_jw T_jw U_jw G_js R_w OC_o O_o B_h P_h N_h L_h E_h V_h G_h D_h O_h Z_h R_h I_h)) [0, 1, 2, 3, 4, 5, 6, 7, 8, 9, 10, 11, 12] ⟨rfl, rfl, rfl, rfl, rfl, rfl, rfl, rfl, rfl, rfl, rfl, rfl, rfl, trivial⟩, lapp_1 (gW cI cJ cZ q S_n T_n U_n' S_r T_r U_r G_s P_p I_i S_iw T_iw U_iw G_is I_j S_jw T_jw U_jw G_js R_w OC_o O_o B_h P_h N_h' L_h' E_h V_h G_h D_h O_h Z_h R_h I_h) 13, gW_13] at hpj2
  refine k_permP (ws' := gall (gW cI cJ cZ q S_n T_n U_n' S_r T_r U_r G_s P_p I_i S_iw T_iw U_iw G_is I_j S_jw T_jw U_jw G_js R_w OC_o O_o B_h P_h N_h' L_h' E_h V_h G_h D_h O_h Z_h R_h I_h)) C hpj2 ?_
  refine k_st (K := K) [.int (iI r2), .int (iI r)] _ rfl rfl ?_
  subst hc
  obtain ⟨rfl, hN'⟩ := hm
  exact k_icmp_same C dL_law_484 961 (by decide) (nx _ ⟨S_n, T_n, U_n', S_r, T_r, U_r, G_s, P_p, I_i, S_iw, T_iw, U_iw, G_is, I_j, S_jw, T_jw, U_jw, G_js, R_w, OC_o, O_o, B_h, P_h, N_h', L_h', E_h, V_h, G_h, D_h, O_h, Z_h, R_h, I_h, List.Perm.refl _, hI, hZ, hS, hT, hG, hP, hN', hi, hj⟩)
set_option maxHeartbeats 4000000 in
set_option maxRecDepth 20000 in
theorem lst_touch {D : va_G} {A : Nat → Prop} {l : Launch} {K : KT} {cI cJ cZ : ClassId} {q : Nat → Nat → Nat} {b cs sl : Nat} {f : Int → Int} {Ln i : Int} {ws : va_W} (C : KC cL_law RL wsL_law room_1 4 D (kT cI cJ cZ) A l false (fun _ _ => False) 0 0 K) (sld : ∀ {pc n : Nat} {lv : List (Nat × Value)} {st : List Value} {ws : va_W} {i : Int}, decode cL_law pc = .ok (.iaload, 1) → 0 ≤ i → i < Ln → pc + 1 = n → K cs sl n lv (.int (iI (f i)) :: st) ws → K cs sl pc lv (.int (iI i) :: .ref b :: st) ws) (hf : ∀ k, rI (f k)) (hcs : cs + 0 ≤ room_1.cells ∧ sl + 0 ≤ room_1.slots) (i0 : 0 ≤ i) (i1 : i + 4 < Ln) (hR : LRel cI cJ cZ q ws) (nx : ∀ ws', LRel cI cJ cZ q ws' → K cs sl 961 [(3, .int (iI i)), (2, .ref (q 13 0)), (1, .ref (q 0 0)), (0, .ref b)] [] ws') : K cs sl 489 [(3, .int (iI i)), (2, .ref (q 13 0)), (1, .ref (q 0 0)), (0, .ref b)] [] ws := by
  obtain ⟨S_n, T_n, U_n, S_r, T_r, U_r, G_s, P_p, I_i, S_iw, T_iw, U_iw, G_is, I_j, S_jw, T_jw, U_jw, G_js, R_w, OC_o, O_o, B_h, P_h, N_h, L_h, E_h, V_h, G_h, D_h, O_h, Z_h, R_h, I_h, hp, hI, hZ, hS, hT, hG, hP, hN, hi, hj⟩ := hR
  refine k_aload_n C dL_law_489 2 rfl rfl 490 rfl ?_
  refine k_aload_n C dL_law_490 3 rfl rfl 491 rfl ?_
  refine k_iload_n C dL_law_491 0 rfl rfl 492 rfl ?_
  refine k_iconst C dL_law_492 493 rfl ?_
  refine k_iadd C dL_law_493 494 rfl ?_
  refine sld dL_law_494 (by omega) (by omega) rfl ?_
  have hM := c_X6_touch (l := l) (D := D) (cI := cI) (cJ := cJ) (cZ := cZ) (q 0) (q 1) (q 2) (q 3) (q 4) (q 5) (q 8) (q 11) (q 12) S_n T_n U_n (f (i + 1)) (fun (r : Int)  => r = vTouch B_h P_h (f (i + 1))) (s_touch hI hS hT  (hf _) rfl)
  have hps := lw_split (G := (gW cI cJ cZ q S_n T_n U_n S_r T_r U_r G_s P_p I_i S_iw T_iw U_iw G_is I_j S_jw T_jw U_jw G_js R_w OC_o O_o B_h P_h N_h L_h E_h V_h G_h D_h O_h Z_h R_h I_h)) [0, 1] [2, 3, 4, 5, 6, 7, 8, 9, 10, 11, 12, 13] hp (by decide)
  rw [lapp_2 (gW cI cJ cZ q S_n T_n U_n S_r T_r U_r G_s P_p I_i S_iw T_iw U_iw G_is I_j S_jw T_jw U_jw G_js R_w OC_o O_o B_h P_h N_h L_h E_h V_h G_h D_h O_h Z_h R_h I_h) 0 1, gW_0, gW_1] at hps
  refine k_callP (wr := lapp (gW cI cJ cZ q S_n T_n U_n S_r T_r U_r G_s P_p I_i S_iw T_iw U_iw G_is I_j S_jw T_jw U_jw G_js R_w OC_o O_o B_h P_h N_h L_h E_h V_h G_h D_h O_h Z_h R_h I_h) [2, 3, 4, 5, 6, 7, 8, 9, 10, 11, 12, 13]) C dL_law_495 hM gL_law_X6_touch rfl sg_X6_touch 6 rfl rfl rfl (Nat.le_of_ble_eq_true rfl) ⟨⟨rfl, rfl⟩, Nat.le_of_ble_eq_true rfl, Nat.le_of_ble_eq_true rfl⟩ hcs hps cs sl ⟨rfl, rfl⟩ 498 rfl (fun v w1 hq => ?_)
  obtain ⟨r, rfl, rfl, hc⟩ := hq
  have hpj := lw_join (G := (gW cI cJ cZ q S_n T_n U_n S_r T_r U_r G_s P_p I_i S_iw T_iw U_iw G_is I_j S_jw T_jw U_jw G_js R_w OC_o O_o B_h P_h N_h L_h E_h V_h G_h D_h O_h Z_h R_h I_h)) [2, 3, 4, 5, 6, 7, 8, 9, 10, 11, 12, 13] [0, 1] (by decide)
  rw [lapp_agr (G := (gW cI cJ cZ q S_n T_n U_n S_r T_r U_r G_s P_p I_i S_iw T_iw U_iw G_is I_j S_jw T_jw U_jw G_js R_w OC_o O_o B_h P_h N_h L_h E_h V_h G_h D_h O_h Z_h R_h I_h)) (G' := (gW cI cJ cZ q S_n T_n U_n S_r T_r U_r G_s P_p I_i S_iw T_iw U_iw G_is I_j S_jw T_jw U_jw G_js R_w OC_o O_o B_h P_h N_h L_h E_h V_h G_h D_h O_h Z_h R_h I_h)) [2, 3, 4, 5, 6, 7, 8, 9, 10, 11, 12, 13] ⟨rfl, rfl, rfl, rfl, rfl, rfl, rfl, rfl, rfl, rfl, rfl, rfl, trivial⟩, lapp_2 (gW cI cJ cZ q S_n T_n U_n S_r T_r U_r G_s P_p I_i S_iw T_iw U_iw G_is I_j S_jw T_jw U_jw G_js R_w OC_o O_o B_h P_h N_h L_h E_h V_h G_h D_h O_h Z_h R_h I_h) 0 1, gW_0, gW_1] at hpj
  refine k_permP (ws' := gall (gW cI cJ cZ q S_n T_n U_n S_r T_r U_r G_s P_p I_i S_iw T_iw U_iw G_is I_j S_jw T_jw U_jw G_js R_w OC_o O_o B_h P_h N_h L_h E_h V_h G_h D_h O_h Z_h R_h I_h)) C hpj ?_
  refine k_st (K := K) [.int (iI r)] _ rfl rfl ?_
  refine k_aload_n C dL_law_498 1 rfl rfl 499 rfl ?_
  refine k_aload_n C dL_law_499 3 rfl rfl 500 rfl ?_
  refine k_iload_n C dL_law_500 0 rfl rfl 501 rfl ?_
  refine k_iconst C dL_law_501 502 rfl ?_
  refine k_iadd C dL_law_502 503 rfl ?_
  refine sld dL_law_503 (by omega) (by omega) rfl ?_
  have hM := c_X7_touch (l := l) (D := D) (cI := cI) (cJ := cJ) (cZ := cZ) (q 13) B_h P_h N_h L_h E_h V_h G_h D_h O_h Z_h R_h I_h (f (i + 1)) (fun (r : Int) (N_h' : gMN) => r = vTouch B_h P_h (f (i + 1)) ∧ (Z10 N_h'.1 ∧ Z10 N_h'.2)) (s_X7_touch hI hN.1  (hf _) (fun N' h => ⟨rfl, h⟩))
  have hps := lw_split (G := (gW cI cJ cZ q S_n T_n U_n S_r T_r U_r G_s P_p I_i S_iw T_iw U_iw G_is I_j S_jw T_jw U_jw G_js R_w OC_o O_o B_h P_h N_h L_h E_h V_h G_h D_h O_h Z_h R_h I_h)) [13] [0, 1, 2, 3, 4, 5, 6, 7, 8, 9, 10, 11, 12] (List.Perm.refl _) (by decide)
  rw [lapp_1 (gW cI cJ cZ q S_n T_n U_n S_r T_r U_r G_s P_p I_i S_iw T_iw U_iw G_is I_j S_jw T_jw U_jw G_js R_w OC_o O_o B_h P_h N_h L_h E_h V_h G_h D_h O_h Z_h R_h I_h) 13, gW_13] at hps
  refine k_callP (wr := lapp (gW cI cJ cZ q S_n T_n U_n S_r T_r U_r G_s P_p I_i S_iw T_iw U_iw G_is I_j S_jw T_jw U_jw G_js R_w OC_o O_o B_h P_h N_h L_h E_h V_h G_h D_h O_h Z_h R_h I_h) [0, 1, 2, 3, 4, 5, 6, 7, 8, 9, 10, 11, 12]) C dL_law_504 hM gL_law_X7_touch rfl sg_X7_touch 7 rfl rfl rfl (Nat.le_of_ble_eq_true rfl) ⟨⟨rfl, rfl⟩, Nat.le_of_ble_eq_true rfl, Nat.le_of_ble_eq_true rfl⟩ hcs hps cs sl ⟨rfl, rfl⟩ 507 rfl (fun v w1 hq => ?_)
  obtain ⟨r2, N_h', rfl, rfl, hm⟩ := hq
  have hpj2 := lw_join (G := (gW cI cJ cZ q S_n T_n U_n S_r T_r U_r G_s P_p I_i S_iw T_iw U_iw G_is I_j S_jw T_jw U_jw G_js R_w OC_o O_o B_h P_h N_h' L_h E_h V_h G_h D_h O_h Z_h R_h I_h)) [0, 1, 2, 3, 4, 5, 6, 7, 8, 9, 10, 11, 12] [13] (by decide)
  rw [lapp_agr (G := (gW cI cJ cZ q S_n T_n U_n S_r T_r U_r G_s P_p I_i S_iw T_iw U_iw G_is I_j S_jw T_jw U_jw G_js R_w OC_o O_o B_h P_h N_h' L_h E_h V_h G_h D_h O_h Z_h R_h I_h)) (G' := (gW cI cJ cZ q S_n T_n U_n S_r T_r U_r G_s P_p I_i S_iw T_iw U_iw G_is I_j S_jw T_jw U_jw G_js R_w OC_o O_o B_h P_h N_h L_h E_h V_h G_h D_h O_h Z_h R_h I_h)) [0, 1, 2, 3, 4, 5, 6, 7, 8, 9, 10, 11, 12] ⟨rfl, rfl, rfl, rfl, rfl, rfl, rfl, rfl, rfl, rfl, rfl, rfl, rfl, trivial⟩, lapp_1 (gW cI cJ cZ q S_n T_n U_n S_r T_r U_r G_s P_p I_i S_iw T_iw U_iw G_is I_j S_jw T_jw U_jw G_js R_w OC_o O_o B_h P_h N_h' L_h E_h V_h G_h D_h O_h Z_h R_h I_h) 13, gW_13] at hpj2
  refine k_permP (ws' := gall (gW cI cJ cZ q S_n T_n U_n S_r T_r U_r G_s P_p I_i S_iw T_iw U_iw G_is I_j S_jw T_jw U_jw G_js R_w OC_o O_o B_h P_h N_h' L_h E_h V_h G_h D_h O_h Z_h R_h I_h)) C hpj2 ?_
  refine k_st (K := K) [.int (iI r2), .int (iI r)] _ rfl rfl ?_
  subst hc
  obtain ⟨rfl, hN'⟩ := hm
  have hN' : Scr N_h' L_h := ⟨hN', hN.2⟩
  exact k_icmp_same C dL_law_507 961 (by decide) (nx _ ⟨S_n, T_n, U_n, S_r, T_r, U_r, G_s, P_p, I_i, S_iw, T_iw, U_iw, G_is, I_j, S_jw, T_jw, U_jw, G_js, R_w, OC_o, O_o, B_h, P_h, N_h', L_h, E_h, V_h, G_h, D_h, O_h, Z_h, R_h, I_h, List.Perm.refl _, hI, hZ, hS, hT, hG, hP, hN', hi, hj⟩)
set_option maxHeartbeats 4000000 in
set_option maxRecDepth 20000 in
theorem lst_gaps {D : va_G} {A : Nat → Prop} {l : Launch} {K : KT} {cI cJ cZ : ClassId} {q : Nat → Nat → Nat} {b cs sl : Nat} {f : Int → Int} {Ln i : Int} {ws : va_W} (C : KC cL_law RL wsL_law room_1 4 D (kT cI cJ cZ) A l false (fun _ _ => False) 0 0 K) (sld : ∀ {pc n : Nat} {lv : List (Nat × Value)} {st : List Value} {ws : va_W} {i : Int}, decode cL_law pc = .ok (.iaload, 1) → 0 ≤ i → i < Ln → pc + 1 = n → K cs sl n lv (.int (iI (f i)) :: st) ws → K cs sl pc lv (.int (iI i) :: .ref b :: st) ws) (hf : ∀ k, rI (f k)) (hcs : cs + 0 ≤ room_1.cells ∧ sl + 0 ≤ room_1.slots) (i0 : 0 ≤ i) (i1 : i + 4 < Ln) (hR : LRel cI cJ cZ q ws) (nx : ∀ ws', LRel cI cJ cZ q ws' → K cs sl 961 [(3, .int (iI i)), (2, .ref (q 13 0)), (1, .ref (q 0 0)), (0, .ref b)] [] ws') : K cs sl 512 [(3, .int (iI i)), (2, .ref (q 13 0)), (1, .ref (q 0 0)), (0, .ref b)] [] ws := by
  obtain ⟨S_n, T_n, U_n, S_r, T_r, U_r, G_s, P_p, I_i, S_iw, T_iw, U_iw, G_is, I_j, S_jw, T_jw, U_jw, G_js, R_w, OC_o, O_o, B_h, P_h, N_h, L_h, E_h, V_h, G_h, D_h, O_h, Z_h, R_h, I_h, hp, hI, hZ, hS, hT, hG, hP, hN, hi, hj⟩ := hR
  refine k_aload_n C dL_law_512 2 rfl rfl 513 rfl ?_
  refine k_aload_n C dL_law_513 3 rfl rfl 514 rfl ?_
  refine k_iload_n C dL_law_514 0 rfl rfl 515 rfl ?_
  refine k_iconst C dL_law_515 516 rfl ?_
  refine k_iadd C dL_law_516 517 rfl ?_
  refine sld dL_law_517 (by omega) (by omega) rfl ?_
  have hM := c_X6_gaps (l := l) (D := D) (cI := cI) (cJ := cJ) (cZ := cZ) (q 0) (q 1) (q 2) (q 3) (q 4) (q 5) (q 8) (q 11) (q 12) S_n T_n U_n (f (i + 1)) (fun (r : Int)  => r = vGaps B_h P_h (f (i + 1))) (s_gaps hI hS hT  (hf _) rfl)
  have hps := lw_split (G := (gW cI cJ cZ q S_n T_n U_n S_r T_r U_r G_s P_p I_i S_iw T_iw U_iw G_is I_j S_jw T_jw U_jw G_js R_w OC_o O_o B_h P_h N_h L_h E_h V_h G_h D_h O_h Z_h R_h I_h)) [0, 1] [2, 3, 4, 5, 6, 7, 8, 9, 10, 11, 12, 13] hp (by decide)
  rw [lapp_2 (gW cI cJ cZ q S_n T_n U_n S_r T_r U_r G_s P_p I_i S_iw T_iw U_iw G_is I_j S_jw T_jw U_jw G_js R_w OC_o O_o B_h P_h N_h L_h E_h V_h G_h D_h O_h Z_h R_h I_h) 0 1, gW_0, gW_1] at hps
  refine k_callP (wr := lapp (gW cI cJ cZ q S_n T_n U_n S_r T_r U_r G_s P_p I_i S_iw T_iw U_iw G_is I_j S_jw T_jw U_jw G_js R_w OC_o O_o B_h P_h N_h L_h E_h V_h G_h D_h O_h Z_h R_h I_h) [2, 3, 4, 5, 6, 7, 8, 9, 10, 11, 12, 13]) C dL_law_518 hM gL_law_X6_gaps rfl sg_X6_gaps 6 rfl rfl rfl (Nat.le_of_ble_eq_true rfl) ⟨⟨rfl, rfl⟩, Nat.le_of_ble_eq_true rfl, Nat.le_of_ble_eq_true rfl⟩ hcs hps cs sl ⟨rfl, rfl⟩ 521 rfl (fun v w1 hq => ?_)
  obtain ⟨r, rfl, rfl, hc⟩ := hq
  have hpj := lw_join (G := (gW cI cJ cZ q S_n T_n U_n S_r T_r U_r G_s P_p I_i S_iw T_iw U_iw G_is I_j S_jw T_jw U_jw G_js R_w OC_o O_o B_h P_h N_h L_h E_h V_h G_h D_h O_h Z_h R_h I_h)) [2, 3, 4, 5, 6, 7, 8, 9, 10, 11, 12, 13] [0, 1] (by decide)
  rw [lapp_agr (G := (gW cI cJ cZ q S_n T_n U_n S_r T_r U_r G_s P_p I_i S_iw T_iw U_iw G_is I_j S_jw T_jw U_jw G_js R_w OC_o O_o B_h P_h N_h L_h E_h V_h G_h D_h O_h Z_h R_h I_h)) (G' := (gW cI cJ cZ q S_n T_n U_n S_r T_r U_r G_s P_p I_i S_iw T_iw U_iw G_is I_j S_jw T_jw U_jw G_js R_w OC_o O_o B_h P_h N_h L_h E_h V_h G_h D_h O_h Z_h R_h I_h)) [2, 3, 4, 5, 6, 7, 8, 9, 10, 11, 12, 13] ⟨rfl, rfl, rfl, rfl, rfl, rfl, rfl, rfl, rfl, rfl, rfl, rfl, trivial⟩, lapp_2 (gW cI cJ cZ q S_n T_n U_n S_r T_r U_r G_s P_p I_i S_iw T_iw U_iw G_is I_j S_jw T_jw U_jw G_js R_w OC_o O_o B_h P_h N_h L_h E_h V_h G_h D_h O_h Z_h R_h I_h) 0 1, gW_0, gW_1] at hpj
  refine k_permP (ws' := gall (gW cI cJ cZ q S_n T_n U_n S_r T_r U_r G_s P_p I_i S_iw T_iw U_iw G_is I_j S_jw T_jw U_jw G_js R_w OC_o O_o B_h P_h N_h L_h E_h V_h G_h D_h O_h Z_h R_h I_h)) C hpj ?_
  refine k_st (K := K) [.int (iI r)] _ rfl rfl ?_
  refine k_aload_n C dL_law_521 1 rfl rfl 522 rfl ?_
  refine k_aload_n C dL_law_522 3 rfl rfl 523 rfl ?_
  refine k_iload_n C dL_law_523 0 rfl rfl 524 rfl ?_
  refine k_iconst C dL_law_524 525 rfl ?_
  refine k_iadd C dL_law_525 526 rfl ?_
  refine sld dL_law_526 (by omega) (by omega) rfl ?_
  have hM := c_X7_gaps (l := l) (D := D) (cI := cI) (cJ := cJ) (cZ := cZ) (q 13) B_h P_h N_h L_h E_h V_h G_h D_h O_h Z_h R_h I_h (f (i + 1)) (fun (r : Int) (N_h' : gMN) => r = vGaps B_h P_h (f (i + 1)) ∧ (Z10 N_h'.1 ∧ Z10 N_h'.2)) (s_X7_gaps hI hN.1  (hf _) (fun N' h => ⟨rfl, h⟩))
  have hps := lw_split (G := (gW cI cJ cZ q S_n T_n U_n S_r T_r U_r G_s P_p I_i S_iw T_iw U_iw G_is I_j S_jw T_jw U_jw G_js R_w OC_o O_o B_h P_h N_h L_h E_h V_h G_h D_h O_h Z_h R_h I_h)) [13] [0, 1, 2, 3, 4, 5, 6, 7, 8, 9, 10, 11, 12] (List.Perm.refl _) (by decide)
  rw [lapp_1 (gW cI cJ cZ q S_n T_n U_n S_r T_r U_r G_s P_p I_i S_iw T_iw U_iw G_is I_j S_jw T_jw U_jw G_js R_w OC_o O_o B_h P_h N_h L_h E_h V_h G_h D_h O_h Z_h R_h I_h) 13, gW_13] at hps
  refine k_callP (wr := lapp (gW cI cJ cZ q S_n T_n U_n S_r T_r U_r G_s P_p I_i S_iw T_iw U_iw G_is I_j S_jw T_jw U_jw G_js R_w OC_o O_o B_h P_h N_h L_h E_h V_h G_h D_h O_h Z_h R_h I_h) [0, 1, 2, 3, 4, 5, 6, 7, 8, 9, 10, 11, 12]) C dL_law_527 hM gL_law_X7_gaps rfl sg_X7_gaps 7 rfl rfl rfl (Nat.le_of_ble_eq_true rfl) ⟨⟨rfl, rfl⟩, Nat.le_of_ble_eq_true rfl, Nat.le_of_ble_eq_true rfl⟩ hcs hps cs sl ⟨rfl, rfl⟩ 530 rfl (fun v w1 hq => ?_)
  obtain ⟨r2, N_h', rfl, rfl, hm⟩ := hq
  have hpj2 := lw_join (G := (gW cI cJ cZ q S_n T_n U_n S_r T_r U_r G_s P_p I_i S_iw T_iw U_iw G_is I_j S_jw T_jw U_jw G_js R_w OC_o O_o B_h P_h N_h' L_h E_h V_h G_h D_h O_h Z_h R_h I_h)) [0, 1, 2, 3, 4, 5, 6, 7, 8, 9, 10, 11, 12] [13] (by decide)
  rw [lapp_agr (G := (gW cI cJ cZ q S_n T_n U_n S_r T_r U_r G_s P_p I_i S_iw T_iw U_iw G_is I_j S_jw T_jw U_jw G_js R_w OC_o O_o B_h P_h N_h' L_h E_h V_h G_h D_h O_h Z_h R_h I_h)) (G' := (gW cI cJ cZ q S_n T_n U_n S_r T_r U_r G_s P_p I_i S_iw T_iw U_iw G_is I_j S_jw T_jw U_jw G_js R_w OC_o O_o B_h P_h N_h L_h E_h V_h G_h D_h O_h Z_h R_h I_h)) [0, 1, 2, 3, 4, 5, 6, 7, 8, 9, 10, 11, 12] ⟨rfl, rfl, rfl, rfl, rfl, rfl, rfl, rfl, rfl, rfl, rfl, rfl, rfl, trivial⟩, lapp_1 (gW cI cJ cZ q S_n T_n U_n S_r T_r U_r G_s P_p I_i S_iw T_iw U_iw G_is I_j S_jw T_jw U_jw G_js R_w OC_o O_o B_h P_h N_h' L_h E_h V_h G_h D_h O_h Z_h R_h I_h) 13, gW_13] at hpj2
  refine k_permP (ws' := gall (gW cI cJ cZ q S_n T_n U_n S_r T_r U_r G_s P_p I_i S_iw T_iw U_iw G_is I_j S_jw T_jw U_jw G_js R_w OC_o O_o B_h P_h N_h' L_h E_h V_h G_h D_h O_h Z_h R_h I_h)) C hpj2 ?_
  refine k_st (K := K) [.int (iI r2), .int (iI r)] _ rfl rfl ?_
  subst hc
  obtain ⟨rfl, hN'⟩ := hm
  have hN' : Scr N_h' L_h := ⟨hN', hN.2⟩
  exact k_icmp_same C dL_law_530 961 (by decide) (nx _ ⟨S_n, T_n, U_n, S_r, T_r, U_r, G_s, P_p, I_i, S_iw, T_iw, U_iw, G_is, I_j, S_jw, T_jw, U_jw, G_js, R_w, OC_o, O_o, B_h, P_h, N_h', L_h, E_h, V_h, G_h, D_h, O_h, Z_h, R_h, I_h, List.Perm.refl _, hI, hZ, hS, hT, hG, hP, hN', hi, hj⟩)
set_option maxHeartbeats 4000000 in
set_option maxRecDepth 20000 in
theorem lst_where {D : va_G} {A : Nat → Prop} {l : Launch} {K : KT} {cI cJ cZ : ClassId} {q : Nat → Nat → Nat} {b cs sl : Nat} {f : Int → Int} {Ln i : Int} {ws : va_W} (C : KC cL_law RL wsL_law room_1 4 D (kT cI cJ cZ) A l false (fun _ _ => False) 0 0 K) (sld : ∀ {pc n : Nat} {lv : List (Nat × Value)} {st : List Value} {ws : va_W} {i : Int}, decode cL_law pc = .ok (.iaload, 1) → 0 ≤ i → i < Ln → pc + 1 = n → K cs sl n lv (.int (iI (f i)) :: st) ws → K cs sl pc lv (.int (iI i) :: .ref b :: st) ws) (hf : ∀ k, rI (f k)) (hcs : cs + 0 ≤ room_1.cells ∧ sl + 0 ≤ room_1.slots) (i0 : 0 ≤ i) (i1 : i + 4 < Ln) (hR : LRel cI cJ cZ q ws) (nx : ∀ ws', LRel cI cJ cZ q ws' → K cs sl 961 [(3, .int (iI i)), (2, .ref (q 13 0)), (1, .ref (q 0 0)), (0, .ref b)] [] ws') : K cs sl 535 [(3, .int (iI i)), (2, .ref (q 13 0)), (1, .ref (q 0 0)), (0, .ref b)] [] ws := by
  obtain ⟨S_n, T_n, U_n, S_r, T_r, U_r, G_s, P_p, I_i, S_iw, T_iw, U_iw, G_is, I_j, S_jw, T_jw, U_jw, G_js, R_w, OC_o, O_o, B_h, P_h, N_h, L_h, E_h, V_h, G_h, D_h, O_h, Z_h, R_h, I_h, hp, hI, hZ, hS, hT, hG, hP, hN, hi, hj⟩ := hR
  refine k_aload_n C dL_law_535 2 rfl rfl 536 rfl ?_
  refine k_aload_n C dL_law_536 3 rfl rfl 537 rfl ?_
  refine k_iload_n C dL_law_537 0 rfl rfl 538 rfl ?_
  refine k_iconst C dL_law_538 539 rfl ?_
  refine k_iadd C dL_law_539 540 rfl ?_
  refine sld dL_law_540 (by omega) (by omega) rfl ?_
  have hM := c_X6_where (l := l) (D := D) (cI := cI) (cJ := cJ) (cZ := cZ) (q 0) (q 1) (q 2) (q 3) (q 4) (q 5) (q 8) (q 11) (q 12) S_n T_n U_n S_r T_r U_r (f (i + 1)) (fun (r : Int) (S_r' : gWS) (T_r' : gWT) (U_r' : gWU) => r = vWhere B_h P_h (f (i + 1))) (s_where hI hS hT  (hf _) (fun _ _ _ => rfl))
  have hps := lw_split (G := (gW cI cJ cZ q S_n T_n U_n S_r T_r U_r G_s P_p I_i S_iw T_iw U_iw G_is I_j S_jw T_jw U_jw G_js R_w OC_o O_o B_h P_h N_h L_h E_h V_h G_h D_h O_h Z_h R_h I_h)) [0, 1, 2] [3, 4, 5, 6, 7, 8, 9, 10, 11, 12, 13] hp (by decide)
  rw [lapp_3 (gW cI cJ cZ q S_n T_n U_n S_r T_r U_r G_s P_p I_i S_iw T_iw U_iw G_is I_j S_jw T_jw U_jw G_js R_w OC_o O_o B_h P_h N_h L_h E_h V_h G_h D_h O_h Z_h R_h I_h) 0 1 2, gW_0, gW_1, gW_2] at hps
  refine k_callP (wr := lapp (gW cI cJ cZ q S_n T_n U_n S_r T_r U_r G_s P_p I_i S_iw T_iw U_iw G_is I_j S_jw T_jw U_jw G_js R_w OC_o O_o B_h P_h N_h L_h E_h V_h G_h D_h O_h Z_h R_h I_h) [3, 4, 5, 6, 7, 8, 9, 10, 11, 12, 13]) C dL_law_541 hM gL_law_X6_where rfl sg_X6_where 6 rfl rfl rfl (Nat.le_of_ble_eq_true rfl) ⟨⟨rfl, rfl⟩, Nat.le_of_ble_eq_true rfl, Nat.le_of_ble_eq_true rfl⟩ hcs hps cs sl ⟨rfl, rfl⟩ 544 rfl (fun v w1 hq => ?_)
  obtain ⟨r, S_r', T_r', U_r', rfl, rfl, hc⟩ := hq
  have hpj := lw_join (G := (gW cI cJ cZ q S_n T_n U_n S_r' T_r' U_r' G_s P_p I_i S_iw T_iw U_iw G_is I_j S_jw T_jw U_jw G_js R_w OC_o O_o B_h P_h N_h L_h E_h V_h G_h D_h O_h Z_h R_h I_h)) [3, 4, 5, 6, 7, 8, 9, 10, 11, 12, 13] [0, 1, 2] (by decide)
  rw [lapp_agr (G := (gW cI cJ cZ q S_n T_n U_n S_r' T_r' U_r' G_s P_p I_i S_iw T_iw U_iw G_is I_j S_jw T_jw U_jw G_js R_w OC_o O_o B_h P_h N_h L_h E_h V_h G_h D_h O_h Z_h R_h I_h)) (G' := (gW cI cJ cZ q S_n T_n U_n S_r T_r U_r G_s P_p I_i S_iw T_iw U_iw G_is I_j S_jw T_jw U_jw G_js R_w OC_o O_o B_h P_h N_h L_h E_h V_h G_h D_h O_h Z_h R_h I_h)) [3, 4, 5, 6, 7, 8, 9, 10, 11, 12, 13] ⟨rfl, rfl, rfl, rfl, rfl, rfl, rfl, rfl, rfl, rfl, rfl, trivial⟩, lapp_3 (gW cI cJ cZ q S_n T_n U_n S_r' T_r' U_r' G_s P_p I_i S_iw T_iw U_iw G_is I_j S_jw T_jw U_jw G_js R_w OC_o O_o B_h P_h N_h L_h E_h V_h G_h D_h O_h Z_h R_h I_h) 0 1 2, gW_0, gW_1, gW_2] at hpj
  refine k_permP (ws' := gall (gW cI cJ cZ q S_n T_n U_n S_r' T_r' U_r' G_s P_p I_i S_iw T_iw U_iw G_is I_j S_jw T_jw U_jw G_js R_w OC_o O_o B_h P_h N_h L_h E_h V_h G_h D_h O_h Z_h R_h I_h)) C hpj ?_
  refine k_st (K := K) [.int (iI r)] _ rfl rfl ?_
  refine k_aload_n C dL_law_544 1 rfl rfl 545 rfl ?_
  refine k_aload_n C dL_law_545 3 rfl rfl 546 rfl ?_
  refine k_iload_n C dL_law_546 0 rfl rfl 547 rfl ?_
  refine k_iconst C dL_law_547 548 rfl ?_
  refine k_iadd C dL_law_548 549 rfl ?_
  refine sld dL_law_549 (by omega) (by omega) rfl ?_
  have hM := c_X7_where (l := l) (D := D) (cI := cI) (cJ := cJ) (cZ := cZ) (q 13) B_h P_h N_h L_h E_h V_h G_h D_h O_h Z_h R_h I_h (f (i + 1)) (fun (r : Int) (N_h' : gMN) (L_h' : gML) (V_h' : gMV) => r = vWhere B_h P_h (f (i + 1)) ∧ Scr N_h' L_h') (s_X7_where hI hN  (hf _) (fun N' L' _ h => ⟨rfl, h⟩))
  have hps := lw_split (G := (gW cI cJ cZ q S_n T_n U_n S_r' T_r' U_r' G_s P_p I_i S_iw T_iw U_iw G_is I_j S_jw T_jw U_jw G_js R_w OC_o O_o B_h P_h N_h L_h E_h V_h G_h D_h O_h Z_h R_h I_h)) [13] [0, 1, 2, 3, 4, 5, 6, 7, 8, 9, 10, 11, 12] (List.Perm.refl _) (by decide)
  rw [lapp_1 (gW cI cJ cZ q S_n T_n U_n S_r' T_r' U_r' G_s P_p I_i S_iw T_iw U_iw G_is I_j S_jw T_jw U_jw G_js R_w OC_o O_o B_h P_h N_h L_h E_h V_h G_h D_h O_h Z_h R_h I_h) 13, gW_13] at hps
  refine k_callP (wr := lapp (gW cI cJ cZ q S_n T_n U_n S_r' T_r' U_r' G_s P_p I_i S_iw T_iw U_iw G_is I_j S_jw T_jw U_jw G_js R_w OC_o O_o B_h P_h N_h L_h E_h V_h G_h D_h O_h Z_h R_h I_h) [0, 1, 2, 3, 4, 5, 6, 7, 8, 9, 10, 11, 12]) C dL_law_550 hM gL_law_X7_where rfl sg_X7_where 7 rfl rfl rfl (Nat.le_of_ble_eq_true rfl) ⟨⟨rfl, rfl⟩, Nat.le_of_ble_eq_true rfl, Nat.le_of_ble_eq_true rfl⟩ hcs hps cs sl ⟨rfl, rfl⟩ 553 rfl (fun v w1 hq => ?_)
  obtain ⟨r2, N_h', L_h', V_h', rfl, rfl, hm⟩ := hq
  have hpj2 := lw_join (G := (gW cI cJ cZ q S_n T_n U_n S_r' T_r' U_r' G_s P_p I_i S_iw T_iw U_iw G_is I_j S_jw T_jw U_jw G_js R_w OC_o O_o B_h P_h N_h' L_h' E_h V_h' G_h D_h O_h Z_h R_h I_h)) [0, 1, 2, 3, 4, 5, 6, 7, 8, 9, 10, 11, 12] [13] (by decide)
  rw [lapp_agr (G := (gW cI cJ cZ q S_n T_n U_n S_r' T_r' U_r' G_s P_p I_i S_iw T_iw U_iw G_is I_j S_jw T_jw U_jw G_js R_w OC_o O_o B_h P_h N_h' L_h' E_h V_h' G_h D_h O_h Z_h R_h I_h)) (G' := (gW cI cJ cZ q S_n T_n U_n S_r' T_r' U_r' G_s P_p I_i S_iw T_iw U_iw G_is I_j S_jw T_jw U_jw G_js R_w OC_o O_o B_h P_h N_h L_h E_h V_h G_h D_h O_h Z_h R_h I_h)) [0, 1, 2, 3, 4, 5, 6, 7, 8, 9, 10, 11, 12] ⟨rfl, rfl, rfl, rfl, rfl, rfl, rfl, rfl, rfl, rfl, rfl, rfl, rfl, trivial⟩, lapp_1 (gW cI cJ cZ q S_n T_n U_n S_r' T_r' U_r' G_s P_p I_i S_iw T_iw U_iw G_is I_j S_jw T_jw U_jw G_js R_w OC_o O_o B_h P_h N_h' L_h' E_h V_h' G_h D_h O_h Z_h R_h I_h) 13, gW_13] at hpj2
  refine k_permP (ws' := gall (gW cI cJ cZ q S_n T_n U_n S_r' T_r' U_r' G_s P_p I_i S_iw T_iw U_iw G_is I_j S_jw T_jw U_jw G_js R_w OC_o O_o B_h P_h N_h' L_h' E_h V_h' G_h D_h O_h Z_h R_h I_h)) C hpj2 ?_
  refine k_st (K := K) [.int (iI r2), .int (iI r)] _ rfl rfl ?_
  subst hc
  obtain ⟨rfl, hN'⟩ := hm
  exact k_icmp_same C dL_law_553 961 (by decide) (nx _ ⟨S_n, T_n, U_n, S_r', T_r', U_r', G_s, P_p, I_i, S_iw, T_iw, U_iw, G_is, I_j, S_jw, T_jw, U_jw, G_js, R_w, OC_o, O_o, B_h, P_h, N_h', L_h', E_h, V_h', G_h, D_h, O_h, Z_h, R_h, I_h, List.Perm.refl _, hI, hZ, hS, hT, hG, hP, hN', hi, hj⟩)
