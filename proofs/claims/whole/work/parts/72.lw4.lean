/-! the law: a step for each call (3) -/
set_option maxHeartbeats 4000000 in
set_option maxRecDepth 20000 in
theorem lst_gate {D : va_G} {A : Nat → Prop} {l : Launch} {K : KT} {cI cJ cZ : ClassId} {q : Nat → Nat → Nat} {b cs sl : Nat} {f : Int → Int} {Ln i : Int} {ws : va_W} (C : KC cL_law RL wsL_law room_1 4 D (kT cI cJ cZ) A l false (fun _ _ => False) 0 0 K) (sld : ∀ {pc n : Nat} {lv : List (Nat × Value)} {st : List Value} {ws : va_W} {i : Int}, decode cL_law pc = .ok (.iaload, 1) → 0 ≤ i → i < Ln → pc + 1 = n → K cs sl n lv (.int (iI (f i)) :: st) ws → K cs sl pc lv (.int (iI i) :: .ref b :: st) ws) (hf : ∀ k, rI (f k)) (hcs : cs + 0 ≤ room_1.cells ∧ sl + 0 ≤ room_1.slots) (i0 : 0 ≤ i) (i1 : i + 4 < Ln) (hR : LRel cI cJ cZ q ws) (nx : ∀ ws', LRel cI cJ cZ q ws' → K cs sl 961 [(3, .int (iI i)), (2, .ref (q 13 0)), (1, .ref (q 0 0)), (0, .ref b)] [] ws') : K cs sl 558 [(3, .int (iI i)), (2, .ref (q 13 0)), (1, .ref (q 0 0)), (0, .ref b)] [] ws := by
  obtain ⟨S_n, T_n, U_n, S_r, T_r, U_r, G_s, P_p, I_i, S_iw, T_iw, U_iw, G_is, I_j, S_jw, T_jw, U_jw, G_js, R_w, OC_o, O_o, B_h, P_h, N_h, L_h, E_h, V_h, G_h, D_h, O_h, Z_h, R_h, I_h, hp, hI, hZ, hS, hT, hG, hP, hN, hi, hj⟩ := hR
  refine k_aload_n C dL_law_558 2 rfl rfl 559 rfl ?_
  refine k_aload_n C dL_law_559 3 rfl rfl 560 rfl ?_
  refine k_iload_n C dL_law_560 0 rfl rfl 561 rfl ?_
  refine k_iconst C dL_law_561 562 rfl ?_
  refine k_iadd C dL_law_562 563 rfl ?_
  refine sld dL_law_563 (by omega) (by omega) rfl ?_
  refine k_aload_n C dL_law_564 3 rfl rfl 565 rfl ?_
  refine k_iload_n C dL_law_565 0 rfl rfl 566 rfl ?_
  refine k_iconst C dL_law_566 567 rfl ?_
  refine k_iadd C dL_law_567 568 rfl ?_
  refine sld dL_law_568 (by omega) (by omega) rfl ?_
  refine k_aload_n C dL_law_569 3 rfl rfl 570 rfl ?_
  refine k_iload_n C dL_law_570 0 rfl rfl 571 rfl ?_
  refine k_iconst C dL_law_571 572 rfl ?_
  refine k_iadd C dL_law_572 573 rfl ?_
  refine sld dL_law_573 (by omega) (by omega) rfl ?_
  have hM := c_X6_gate (l := l) (D := D) (cI := cI) (cJ := cJ) (cZ := cZ) (q 0) (q 1) (q 2) (q 3) (q 4) (q 5) (q 8) (q 11) (q 12) S_n T_n U_n S_r T_r U_r (f (i + 1)) (f (i + 2)) (f (i + 3)) (fun (r : Int) (S_r' : gWS) (T_r' : gWT) (U_r' : gWU) => r = vGate B_h P_h (f (i + 1)) (f (i + 2)) (f (i + 3))) (s_gate hI hS hT  (hf _) (hf _) (hf _) (fun _ _ _ => rfl))
  have hps := lw_split (G := (gW cI cJ cZ q S_n T_n U_n S_r T_r U_r G_s P_p I_i S_iw T_iw U_iw G_is I_j S_jw T_jw U_jw G_js R_w OC_o O_o B_h P_h N_h L_h E_h V_h G_h D_h O_h Z_h R_h I_h)) [0, 1, 2] [3, 4, 5, 6, 7, 8, 9, 10, 11, 12, 13] hp (by decide)
  rw [lapp_3 (gW cI cJ cZ q S_n T_n U_n S_r T_r U_r G_s P_p I_i S_iw T_iw U_iw G_is I_j S_jw T_jw U_jw G_js R_w OC_o O_o B_h P_h N_h L_h E_h V_h G_h D_h O_h Z_h R_h I_h) 0 1 2, gW_0, gW_1, gW_2] at hps
  refine k_callP (wr := lapp (gW cI cJ cZ q S_n T_n U_n S_r T_r U_r G_s P_p I_i S_iw T_iw U_iw G_is I_j S_jw T_jw U_jw G_js R_w OC_o O_o B_h P_h N_h L_h E_h V_h G_h D_h O_h Z_h R_h I_h) [3, 4, 5, 6, 7, 8, 9, 10, 11, 12, 13]) C dL_law_574 hM gL_law_X6_gate rfl sg_X6_gate 6 rfl rfl rfl (Nat.le_of_ble_eq_true rfl) ⟨⟨rfl, rfl⟩, Nat.le_of_ble_eq_true rfl, Nat.le_of_ble_eq_true rfl⟩ hcs hps cs sl ⟨rfl, rfl⟩ 577 rfl (fun v w1 hq => ?_)
  obtain ⟨r, S_r', T_r', U_r', rfl, rfl, hc⟩ := hq
  have hpj := lw_join (G := (gW cI cJ cZ q S_n T_n U_n S_r' T_r' U_r' G_s P_p I_i S_iw T_iw U_iw G_is I_j S_jw T_jw U_jw G_js R_w OC_o O_o B_h P_h N_h L_h E_h V_h G_h D_h O_h Z_h R_h I_h)) [3, 4, 5, 6, 7, 8, 9, 10, 11, 12, 13] [0, 1, 2] (by decide)
  rw [lapp_agr (G := (gW cI cJ cZ q S_n T_n U_n S_r' T_r' U_r' G_s P_p I_i S_iw T_iw U_iw G_is I_j S_jw T_jw U_jw G_js R_w OC_o O_o B_h P_h N_h L_h E_h V_h G_h D_h O_h Z_h R_h I_h)) (G' := (gW cI cJ cZ q S_n T_n U_n S_r T_r U_r G_s P_p I_i S_iw T_iw U_iw G_is I_j S_jw T_jw U_jw G_js R_w OC_o O_o B_h P_h N_h L_h E_h V_h G_h D_h O_h Z_h R_h I_h)) [3, 4, 5, 6, 7, 8, 9, 10, 11, 12, 13] ⟨rfl, rfl, rfl, rfl, rfl, rfl, rfl, rfl, rfl, rfl, rfl, trivial⟩, lapp_3 (gW cI cJ cZ q S_n T_n U_n S_r' T_r' U_r' G_s P_p I_i S_iw T_iw U_iw G_is I_j S_jw T_jw U_jw G_js R_w OC_o O_o B_h P_h N_h L_h E_h V_h G_h D_h O_h Z_h R_h I_h) 0 1 2, gW_0, gW_1, gW_2] at hpj
  refine k_permP (ws' := gall (gW cI cJ cZ q S_n T_n U_n S_r' T_r' U_r' G_s P_p I_i S_iw T_iw U_iw G_is I_j S_jw T_jw U_jw G_js R_w OC_o O_o B_h P_h N_h L_h E_h V_h G_h D_h O_h Z_h R_h I_h)) C hpj ?_
  refine k_st (K := K) [.int (iI r)] _ rfl rfl ?_
  refine k_aload_n C dL_law_577 1 rfl rfl 578 rfl ?_
  refine k_aload_n C dL_law_578 3 rfl rfl 579 rfl ?_
  refine k_iload_n C dL_law_579 0 rfl rfl 580 rfl ?_
  refine k_iconst C dL_law_580 581 rfl ?_
  refine k_iadd C dL_law_581 582 rfl ?_
  refine sld dL_law_582 (by omega) (by omega) rfl ?_
  refine k_aload_n C dL_law_583 3 rfl rfl 584 rfl ?_
  refine k_iload_n C dL_law_584 0 rfl rfl 585 rfl ?_
  refine k_iconst C dL_law_585 586 rfl ?_
  refine k_iadd C dL_law_586 587 rfl ?_
  refine sld dL_law_587 (by omega) (by omega) rfl ?_
  refine k_aload_n C dL_law_588 3 rfl rfl 589 rfl ?_
  refine k_iload_n C dL_law_589 0 rfl rfl 590 rfl ?_
  refine k_iconst C dL_law_590 591 rfl ?_
  refine k_iadd C dL_law_591 592 rfl ?_
  refine sld dL_law_592 (by omega) (by omega) rfl ?_
  have hM := c_X7_gate (l := l) (D := D) (cI := cI) (cJ := cJ) (cZ := cZ) (q 13) B_h P_h N_h L_h E_h V_h G_h D_h O_h Z_h R_h I_h (f (i + 1)) (f (i + 2)) (f (i + 3)) (fun (r : Int) (N_h' : gMN) (L_h' : gML) => r = vGate B_h P_h (f (i + 1)) (f (i + 2)) (f (i + 3)) ∧ Scr N_h' L_h') (s_X7_gate hI hN  (hf _) (hf _) (hf _) (fun N' L' h => ⟨rfl, h⟩))
  have hps := lw_split (G := (gW cI cJ cZ q S_n T_n U_n S_r' T_r' U_r' G_s P_p I_i S_iw T_iw U_iw G_is I_j S_jw T_jw U_jw G_js R_w OC_o O_o B_h P_h N_h L_h E_h V_h G_h D_h O_h Z_h R_h I_h)) [13] [0, 1, 2, 3, 4, 5, 6, 7, 8, 9, 10, 11, 12] (List.Perm.refl _) (by decide)
  rw [lapp_1 (gW cI cJ cZ q S_n T_n U_n S_r' T_r' U_r' G_s P_p I_i S_iw T_iw U_iw G_is I_j S_jw T_jw U_jw G_js R_w OC_o O_o B_h P_h N_h L_h E_h V_h G_h D_h O_h Z_h R_h I_h) 13, gW_13] at hps
  refine k_callP (wr := lapp (gW cI cJ cZ q S_n T_n U_n S_r' T_r' U_r' G_s P_p I_i S_iw T_iw U_iw G_is I_j S_jw T_jw U_jw G_js R_w OC_o O_o B_h P_h N_h L_h E_h V_h G_h D_h O_h Z_h R_h I_h) [0, 1, 2, 3, 4, 5, 6, 7, 8, 9, 10, 11, 12]) C dL_law_593 hM gL_law_X7_gate rfl sg_X7_gate 7 rfl rfl rfl (Nat.le_of_ble_eq_true rfl) ⟨⟨rfl, rfl⟩, Nat.le_of_ble_eq_true rfl, Nat.le_of_ble_eq_true rfl⟩ hcs hps cs sl ⟨rfl, rfl⟩ 596 rfl (fun v w1 hq => ?_)
  obtain ⟨r2, N_h', L_h', rfl, rfl, hm⟩ := hq
  have hpj2 := lw_join (G := (gW cI cJ cZ q S_n T_n U_n S_r' T_r' U_r' G_s P_p I_i S_iw T_iw U_iw G_is I_j S_jw T_jw U_jw G_js R_w OC_o O_o B_h P_h N_h' L_h' E_h V_h G_h D_h O_h Z_h R_h I_h)) [0, 1, 2, 3, 4, 5, 6, 7, 8, 9, 10, 11, 12] [13] (by decide)
  rw [lapp_agr (G := (gW cI cJ cZ q S_n T_n U_n S_r' T_r' U_r' G_s P_p I_i S_iw T_iw U_iw G_is I_j S_jw T_jw U_jw G_js R_w OC_o O_o B_h P_h N_h' L_h' E_h V_h G_h D_h O_h Z_h R_h I_h)) (G' := (gW cI cJ cZ q S_n T_n U_n S_r' T_r' U_r' G_s P_p I_i S_iw T_iw U_iw G_is I_j S_jw T_jw U_jw G_js R_w OC_o O_o B_h P_h N_h L_h E_h V_h G_h D_h O_h Z_h R_h I_h)) [0, 1, 2, 3, 4, 5, 6, 7, 8, 9, 10, 11, 12] ⟨rfl, rfl, rfl, rfl, rfl, rfl, rfl, rfl, rfl, rfl, rfl, rfl, rfl, trivial⟩, lapp_1 (gW cI cJ cZ q S_n T_n U_n S_r' T_r' U_r' G_s P_p I_i S_iw T_iw U_iw G_is I_j S_jw T_jw U_jw G_js R_w OC_o O_o B_h P_h N_h' L_h' E_h V_h G_h D_h O_h Z_h R_h I_h) 13, gW_13] at hpj2
  refine k_permP (ws' := gall (gW cI cJ cZ q S_n T_n U_n S_r' T_r' U_r' G_s P_p I_i S_iw T_iw U_iw G_is I_j S_jw T_jw U_jw G_js R_w OC_o O_o B_h P_h N_h' L_h' E_h V_h G_h D_h O_h Z_h R_h I_h)) C hpj2 ?_
  refine k_st (K := K) [.int (iI r2), .int (iI r)] _ rfl rfl ?_
  subst hc
  obtain ⟨rfl, hN'⟩ := hm
  exact k_icmp_same C dL_law_596 961 (by decide) (nx _ ⟨S_n, T_n, U_n, S_r', T_r', U_r', G_s, P_p, I_i, S_iw, T_iw, U_iw, G_is, I_j, S_jw, T_jw, U_jw, G_js, R_w, OC_o, O_o, B_h, P_h, N_h', L_h', E_h, V_h, G_h, D_h, O_h, Z_h, R_h, I_h, List.Perm.refl _, hI, hZ, hS, hT, hG, hP, hN', hi, hj⟩)
set_option maxHeartbeats 4000000 in
set_option maxRecDepth 20000 in
theorem lst_orders {D : va_G} {A : Nat → Prop} {l : Launch} {K : KT} {cI cJ cZ : ClassId} {q : Nat → Nat → Nat} {b cs sl : Nat} {f : Int → Int} {Ln i : Int} {ws : va_W} (C : KC cL_law RL wsL_law room_1 4 D (kT cI cJ cZ) A l false (fun _ _ => False) 0 0 K) (sld : ∀ {pc n : Nat} {lv : List (Nat × Value)} {st : List Value} {ws : va_W} {i : Int}, decode cL_law pc = .ok (.iaload, 1) → 0 ≤ i → i < Ln → pc + 1 = n → K cs sl n lv (.int (iI (f i)) :: st) ws → K cs sl pc lv (.int (iI i) :: .ref b :: st) ws) (hf : ∀ k, rI (f k)) (hcs : cs + 0 ≤ room_1.cells ∧ sl + 0 ≤ room_1.slots) (i0 : 0 ≤ i) (i1 : i + 4 < Ln) (hR : LRel cI cJ cZ q ws) (nx : ∀ ws', LRel cI cJ cZ q ws' → K cs sl 961 [(3, .int (iI i)), (2, .ref (q 13 0)), (1, .ref (q 0 0)), (0, .ref b)] [] ws') : K cs sl 601 [(3, .int (iI i)), (2, .ref (q 13 0)), (1, .ref (q 0 0)), (0, .ref b)] [] ws := by
  obtain ⟨S_n, T_n, U_n, S_r, T_r, U_r, G_s, P_p, I_i, S_iw, T_iw, U_iw, G_is, I_j, S_jw, T_jw, U_jw, G_js, R_w, OC_o, O_o, B_h, P_h, N_h, L_h, E_h, V_h, G_h, D_h, O_h, Z_h, R_h, I_h, hp, hI, hZ, hS, hT, hG, hP, hN, hi, hj⟩ := hR
  refine k_aload_n C dL_law_601 2 rfl rfl 602 rfl ?_
  refine k_aload_n C dL_law_602 3 rfl rfl 603 rfl ?_
  refine k_iload_n C dL_law_603 0 rfl rfl 604 rfl ?_
  refine k_iconst C dL_law_604 605 rfl ?_
  refine k_iadd C dL_law_605 606 rfl ?_
  refine sld dL_law_606 (by omega) (by omega) rfl ?_
  have hM := c_X6_orders (l := l) (D := D) (cI := cI) (cJ := cJ) (cZ := cZ) (q 0) (q 1) (q 2) (q 3) (q 4) (q 5) (q 8) (q 11) (q 12) S_n T_n U_n S_r T_r U_r P_p OC_o O_o (f (i + 1)) (fun (r : Int) (S_r' : gWS) (T_r' : gWT) (U_r' : gWU) (OC_o' : gOOC) (O_o' : gOO) => r = vOrders B_h P_h D_h (f (i + 1))) (s_orders hI hS hT hP (hf _) (fun _ _ _ _ _ => rfl))
  have hps := lw_split (G := (gW cI cJ cZ q S_n T_n U_n S_r T_r U_r G_s P_p I_i S_iw T_iw U_iw G_is I_j S_jw T_jw U_jw G_js R_w OC_o O_o B_h P_h N_h L_h E_h V_h G_h D_h O_h Z_h R_h I_h)) [0, 1, 2, 4, 12] [3, 5, 6, 7, 8, 9, 10, 11, 13] hp (by decide)
  rw [lapp_5 (gW cI cJ cZ q S_n T_n U_n S_r T_r U_r G_s P_p I_i S_iw T_iw U_iw G_is I_j S_jw T_jw U_jw G_js R_w OC_o O_o B_h P_h N_h L_h E_h V_h G_h D_h O_h Z_h R_h I_h) 0 1 2 4 12, gW_0, gW_1, gW_2, gW_4, gW_12] at hps
  refine k_callP (wr := lapp (gW cI cJ cZ q S_n T_n U_n S_r T_r U_r G_s P_p I_i S_iw T_iw U_iw G_is I_j S_jw T_jw U_jw G_js R_w OC_o O_o B_h P_h N_h L_h E_h V_h G_h D_h O_h Z_h R_h I_h) [3, 5, 6, 7, 8, 9, 10, 11, 13]) C dL_law_607 hM gL_law_X6_orders rfl sg_X6_orders 6 rfl rfl rfl (Nat.le_of_ble_eq_true rfl) ⟨⟨rfl, rfl⟩, Nat.le_of_ble_eq_true rfl, Nat.le_of_ble_eq_true rfl⟩ hcs hps cs sl ⟨rfl, rfl⟩ 610 rfl (fun v w1 hq => ?_)
  obtain ⟨r, S_r', T_r', U_r', OC_o', O_o', rfl, rfl, hc⟩ := hq
  have hpj := lw_join (G := (gW cI cJ cZ q S_n T_n U_n S_r' T_r' U_r' G_s P_p I_i S_iw T_iw U_iw G_is I_j S_jw T_jw U_jw G_js R_w OC_o' O_o' B_h P_h N_h L_h E_h V_h G_h D_h O_h Z_h R_h I_h)) [3, 5, 6, 7, 8, 9, 10, 11, 13] [0, 1, 2, 4, 12] (by decide)
  rw [lapp_agr (G := (gW cI cJ cZ q S_n T_n U_n S_r' T_r' U_r' G_s P_p I_i S_iw T_iw U_iw G_is I_j S_jw T_jw U_jw G_js R_w OC_o' O_o' B_h P_h N_h L_h E_h V_h G_h D_h O_h Z_h R_h I_h)) (G' := (gW cI cJ cZ q S_n T_n U_n S_r T_r U_r G_s P_p I_i S_iw T_iw U_iw G_is I_j S_jw T_jw U_jw G_js R_w OC_o O_o B_h P_h N_h L_h E_h V_h G_h D_h O_h Z_h R_h I_h)) [3, 5, 6, 7, 8, 9, 10, 11, 13] ⟨rfl, rfl, rfl, rfl, rfl, rfl, rfl, rfl, rfl, trivial⟩, lapp_5 (gW cI cJ cZ q S_n T_n U_n S_r' T_r' U_r' G_s P_p I_i S_iw T_iw U_iw G_is I_j S_jw T_jw U_jw G_js R_w OC_o' O_o' B_h P_h N_h L_h E_h V_h G_h D_h O_h Z_h R_h I_h) 0 1 2 4 12, gW_0, gW_1, gW_2, gW_4, gW_12] at hpj
  refine k_permP (ws' := gall (gW cI cJ cZ q S_n T_n U_n S_r' T_r' U_r' G_s P_p I_i S_iw T_iw U_iw G_is I_j S_jw T_jw U_jw G_js R_w OC_o' O_o' B_h P_h N_h L_h E_h V_h G_h D_h O_h Z_h R_h I_h)) C hpj ?_
  refine k_st (K := K) [.int (iI r)] _ rfl rfl ?_
  refine k_aload_n C dL_law_610 1 rfl rfl 611 rfl ?_
  refine k_aload_n C dL_law_611 3 rfl rfl 612 rfl ?_
  refine k_iload_n C dL_law_612 0 rfl rfl 613 rfl ?_
  refine k_iconst C dL_law_613 614 rfl ?_
  refine k_iadd C dL_law_614 615 rfl ?_
  refine sld dL_law_615 (by omega) (by omega) rfl ?_
  have hM := c_X7_orders (l := l) (D := D) (cI := cI) (cJ := cJ) (cZ := cZ) (q 13) B_h P_h N_h L_h E_h V_h G_h D_h O_h Z_h R_h I_h (f (i + 1)) (fun (r : Int) (N_h' : gMN) (L_h' : gML) (O_h' : gMO) => r = vOrders B_h P_h D_h (f (i + 1)) ∧ Scr N_h' L_h') (s_X7_orders hI hN hP.2.1 (fun j j0 j1 => (hP.2.2 j j0 j1).2) (hf _) (fun N' L' _ h => ⟨rfl, h⟩))
  have hps := lw_split (G := (gW cI cJ cZ q S_n T_n U_n S_r' T_r' U_r' G_s P_p I_i S_iw T_iw U_iw G_is I_j S_jw T_jw U_jw G_js R_w OC_o' O_o' B_h P_h N_h L_h E_h V_h G_h D_h O_h Z_h R_h I_h)) [13] [0, 1, 2, 3, 4, 5, 6, 7, 8, 9, 10, 11, 12] (List.Perm.refl _) (by decide)
  rw [lapp_1 (gW cI cJ cZ q S_n T_n U_n S_r' T_r' U_r' G_s P_p I_i S_iw T_iw U_iw G_is I_j S_jw T_jw U_jw G_js R_w OC_o' O_o' B_h P_h N_h L_h E_h V_h G_h D_h O_h Z_h R_h I_h) 13, gW_13] at hps
  refine k_callP (wr := lapp (gW cI cJ cZ q S_n T_n U_n S_r' T_r' U_r' G_s P_p I_i S_iw T_iw U_iw G_is I_j S_jw T_jw U_jw G_js R_w OC_o' O_o' B_h P_h N_h L_h E_h V_h G_h D_h O_h Z_h R_h I_h) [0, 1, 2, 3, 4, 5, 6, 7, 8, 9, 10, 11, 12]) C dL_law_616 hM gL_law_X7_orders rfl sg_X7_orders 7 rfl rfl rfl (Nat.le_of_ble_eq_true rfl) ⟨⟨rfl, rfl⟩, Nat.le_of_ble_eq_true rfl, Nat.le_of_ble_eq_true rfl⟩ hcs hps cs sl ⟨rfl, rfl⟩ 619 rfl (fun v w1 hq => ?_)
  obtain ⟨r2, N_h', L_h', O_h', rfl, rfl, hm⟩ := hq
  have hpj2 := lw_join (G := (gW cI cJ cZ q S_n T_n U_n S_r' T_r' U_r' G_s P_p I_i S_iw T_iw U_iw G_is I_j S_jw T_jw U_jw G_js R_w OC_o' O_o' B_h P_h N_h' L_h' E_h V_h G_h D_h O_h' Z_h R_h I_h)) [0, 1, 2, 3, 4, 5, 6, 7, 8, 9, 10, 11, 12] [13] (by decide)
  rw [lapp_agr (G := (gW cI cJ cZ q S_n T_n U_n S_r' T_r' U_r' G_s P_p I_i S_iw T_iw U_iw G_is I_j S_jw T_jw U_jw G_js R_w OC_o' O_o' B_h P_h N_h' L_h' E_h V_h G_h D_h O_h' Z_h R_h I_h)) (G' := (gW cI cJ cZ q S_n T_n U_n S_r' T_r' U_r' G_s P_p I_i S_iw T_iw U_iw G_is I_j S_jw T_jw U_jw G_js R_w OC_o' O_o' B_h P_h N_h L_h E_h V_h G_h D_h O_h Z_h R_h I_h)) [0, 1, 2, 3, 4, 5, 6, 7, 8, 9, 10, 11, 12] ⟨rfl, rfl, rfl, rfl, rfl, rfl, rfl, rfl, rfl, rfl, rfl, rfl, rfl, trivial⟩, lapp_1 (gW cI cJ cZ q S_n T_n U_n S_r' T_r' U_r' G_s P_p I_i S_iw T_iw U_iw G_is I_j S_jw T_jw U_jw G_js R_w OC_o' O_o' B_h P_h N_h' L_h' E_h V_h G_h D_h O_h' Z_h R_h I_h) 13, gW_13] at hpj2
  refine k_permP (ws' := gall (gW cI cJ cZ q S_n T_n U_n S_r' T_r' U_r' G_s P_p I_i S_iw T_iw U_iw G_is I_j S_jw T_jw U_jw G_js R_w OC_o' O_o' B_h P_h N_h' L_h' E_h V_h G_h D_h O_h' Z_h R_h I_h)) C hpj2 ?_
  refine k_st (K := K) [.int (iI r2), .int (iI r)] _ rfl rfl ?_
  subst hc
  obtain ⟨rfl, hN'⟩ := hm
  exact k_icmp_same C dL_law_619 961 (by decide) (nx _ ⟨S_n, T_n, U_n, S_r', T_r', U_r', G_s, P_p, I_i, S_iw, T_iw, U_iw, G_is, I_j, S_jw, T_jw, U_jw, G_js, R_w, OC_o', O_o', B_h, P_h, N_h', L_h', E_h, V_h, G_h, D_h, O_h', Z_h, R_h, I_h, List.Perm.refl _, hI, hZ, hS, hT, hG, hP, hN', hi, hj⟩)
set_option maxHeartbeats 4000000 in
set_option maxRecDepth 20000 in
theorem lst_high {D : va_G} {A : Nat → Prop} {l : Launch} {K : KT} {cI cJ cZ : ClassId} {q : Nat → Nat → Nat} {b cs sl : Nat} {f : Int → Int} {Ln i : Int} {ws : va_W} (C : KC cL_law RL wsL_law room_1 4 D (kT cI cJ cZ) A l false (fun _ _ => False) 0 0 K) (sld : ∀ {pc n : Nat} {lv : List (Nat × Value)} {st : List Value} {ws : va_W} {i : Int}, decode cL_law pc = .ok (.iaload, 1) → 0 ≤ i → i < Ln → pc + 1 = n → K cs sl n lv (.int (iI (f i)) :: st) ws → K cs sl pc lv (.int (iI i) :: .ref b :: st) ws) (hf : ∀ k, rI (f k)) (hcs : cs + 0 ≤ room_1.cells ∧ sl + 0 ≤ room_1.slots) (i0 : 0 ≤ i) (i1 : i + 4 < Ln) (hR : LRel cI cJ cZ q ws) (nx : ∀ ws', LRel cI cJ cZ q ws' → K cs sl 961 [(3, .int (iI i)), (2, .ref (q 13 0)), (1, .ref (q 0 0)), (0, .ref b)] [] ws') : K cs sl 624 [(3, .int (iI i)), (2, .ref (q 13 0)), (1, .ref (q 0 0)), (0, .ref b)] [] ws := by
  obtain ⟨S_n, T_n, U_n, S_r, T_r, U_r, G_s, P_p, I_i, S_iw, T_iw, U_iw, G_is, I_j, S_jw, T_jw, U_jw, G_js, R_w, OC_o, O_o, B_h, P_h, N_h, L_h, E_h, V_h, G_h, D_h, O_h, Z_h, R_h, I_h, hp, hI, hZ, hS, hT, hG, hP, hN, hi, hj⟩ := hR
  refine k_aload_n C dL_law_624 2 rfl rfl 625 rfl ?_
  refine k_aload_n C dL_law_625 3 rfl rfl 626 rfl ?_
  refine k_iload_n C dL_law_626 0 rfl rfl 627 rfl ?_
  refine k_iconst C dL_law_627 628 rfl ?_
  refine k_iadd C dL_law_628 629 rfl ?_
  refine sld dL_law_629 (by omega) (by omega) rfl ?_
  have hM := c_X6_high (l := l) (D := D) (cI := cI) (cJ := cJ) (cZ := cZ) (q 0) (q 1) (q 2) (q 3) (q 4) (q 5) (q 8) (q 11) (q 12) S_n T_n U_n S_r T_r U_r (f (i + 1)) (fun (r : Int) (S_r' : gWS) (T_r' : gWT) (U_r' : gWU) => VHi B_h P_h (f (i + 1)) r) (s_high hI hS hT (hf _) (fun v h _ _ _ => h))
  have hps := lw_split (G := (gW cI cJ cZ q S_n T_n U_n S_r T_r U_r G_s P_p I_i S_iw T_iw U_iw G_is I_j S_jw T_jw U_jw G_js R_w OC_o O_o B_h P_h N_h L_h E_h V_h G_h D_h O_h Z_h R_h I_h)) [0, 1, 2] [3, 4, 5, 6, 7, 8, 9, 10, 11, 12, 13] hp (by decide)
  rw [lapp_3 (gW cI cJ cZ q S_n T_n U_n S_r T_r U_r G_s P_p I_i S_iw T_iw U_iw G_is I_j S_jw T_jw U_jw G_js R_w OC_o O_o B_h P_h N_h L_h E_h V_h G_h D_h O_h Z_h R_h I_h) 0 1 2, gW_0, gW_1, gW_2] at hps
  refine k_callP (wr := lapp (gW cI cJ cZ q S_n T_n U_n S_r T_r U_r G_s P_p I_i S_iw T_iw U_iw G_is I_j S_jw T_jw U_jw G_js R_w OC_o O_o B_h P_h N_h L_h E_h V_h G_h D_h O_h Z_h R_h I_h) [3, 4, 5, 6, 7, 8, 9, 10, 11, 12, 13]) C dL_law_630 hM gL_law_X6_high rfl sg_X6_high 6 rfl rfl rfl (Nat.le_of_ble_eq_true rfl) ⟨⟨rfl, rfl⟩, Nat.le_of_ble_eq_true rfl, Nat.le_of_ble_eq_true rfl⟩ hcs hps cs sl ⟨rfl, rfl⟩ 633 rfl (fun v w1 hq => ?_)
  obtain ⟨r, S_r', T_r', U_r', rfl, rfl, hc⟩ := hq
  have hpj := lw_join (G := (gW cI cJ cZ q S_n T_n U_n S_r' T_r' U_r' G_s P_p I_i S_iw T_iw U_iw G_is I_j S_jw T_jw U_jw G_js R_w OC_o O_o B_h P_h N_h L_h E_h V_h G_h D_h O_h Z_h R_h I_h)) [3, 4, 5, 6, 7, 8, 9, 10, 11, 12, 13] [0, 1, 2] (by decide)
  rw [lapp_agr (G := (gW cI cJ cZ q S_n T_n U_n S_r' T_r' U_r' G_s P_p I_i S_iw T_iw U_iw G_is I_j S_jw T_jw U_jw G_js R_w OC_o O_o B_h P_h N_h L_h E_h V_h G_h D_h O_h Z_h R_h I_h)) (G' := (gW cI cJ cZ q S_n T_n U_n S_r T_r U_r G_s P_p I_i S_iw T_iw U_iw G_is I_j S_jw T_jw U_jw G_js R_w OC_o O_o B_h P_h N_h L_h E_h V_h G_h D_h O_h Z_h R_h I_h)) [3, 4, 5, 6, 7, 8, 9, 10, 11, 12, 13] ⟨rfl, rfl, rfl, rfl, rfl, rfl, rfl, rfl, rfl, rfl, rfl, trivial⟩, lapp_3 (gW cI cJ cZ q S_n T_n U_n S_r' T_r' U_r' G_s P_p I_i S_iw T_iw U_iw G_is I_j S_jw T_jw U_jw G_js R_w OC_o O_o B_h P_h N_h L_h E_h V_h G_h D_h O_h Z_h R_h I_h) 0 1 2, gW_0, gW_1, gW_2] at hpj
  refine k_permP (ws' := gall (gW cI cJ cZ q S_n T_n U_n S_r' T_r' U_r' G_s P_p I_i S_iw T_iw U_iw G_is I_j S_jw T_jw U_jw G_js R_w OC_o O_o B_h P_h N_h L_h E_h V_h G_h D_h O_h Z_h R_h I_h)) C hpj ?_
  refine k_st (K := K) [.int (iI r)] _ rfl rfl ?_
  refine k_aload_n C dL_law_633 1 rfl rfl 634 rfl ?_
  refine k_aload_n C dL_law_634 3 rfl rfl 635 rfl ?_
  refine k_iload_n C dL_law_635 0 rfl rfl 636 rfl ?_
  refine k_iconst C dL_law_636 637 rfl ?_
  refine k_iadd C dL_law_637 638 rfl ?_
  refine sld dL_law_638 (by omega) (by omega) rfl ?_
  have hM := c_X7_high (l := l) (D := D) (cI := cI) (cJ := cJ) (cZ := cZ) (q 13) B_h P_h N_h L_h E_h V_h G_h D_h O_h Z_h R_h I_h (f (i + 1)) (fun (r : Int) (N_h' : gMN) (L_h' : gML) (Z_h' : gMZ) => VHi B_h P_h (f (i + 1)) r ∧ Scr N_h' L_h') (s_X7_high hI hN (hf _) (fun v h N' L' _ hs => ⟨h, hs⟩))
  have hps := lw_split (G := (gW cI cJ cZ q S_n T_n U_n S_r' T_r' U_r' G_s P_p I_i S_iw T_iw U_iw G_is I_j S_jw T_jw U_jw G_js R_w OC_o O_o B_h P_h N_h L_h E_h V_h G_h D_h O_h Z_h R_h I_h)) [13] [0, 1, 2, 3, 4, 5, 6, 7, 8, 9, 10, 11, 12] (List.Perm.refl _) (by decide)
  rw [lapp_1 (gW cI cJ cZ q S_n T_n U_n S_r' T_r' U_r' G_s P_p I_i S_iw T_iw U_iw G_is I_j S_jw T_jw U_jw G_js R_w OC_o O_o B_h P_h N_h L_h E_h V_h G_h D_h O_h Z_h R_h I_h) 13, gW_13] at hps
  refine k_callP (wr := lapp (gW cI cJ cZ q S_n T_n U_n S_r' T_r' U_r' G_s P_p I_i S_iw T_iw U_iw G_is I_j S_jw T_jw U_jw G_js R_w OC_o O_o B_h P_h N_h L_h E_h V_h G_h D_h O_h Z_h R_h I_h) [0, 1, 2, 3, 4, 5, 6, 7, 8, 9, 10, 11, 12]) C dL_law_639 hM gL_law_X7_high rfl sg_X7_high 7 rfl rfl rfl (Nat.le_of_ble_eq_true rfl) ⟨⟨rfl, rfl⟩, Nat.le_of_ble_eq_true rfl, Nat.le_of_ble_eq_true rfl⟩ hcs hps cs sl ⟨rfl, rfl⟩ 642 rfl (fun v w1 hq => ?_)
  obtain ⟨r2, N_h', L_h', Z_h', rfl, rfl, hm⟩ := hq
  have hpj2 := lw_join (G := (gW cI cJ cZ q S_n T_n U_n S_r' T_r' U_r' G_s P_p I_i S_iw T_iw U_iw G_is I_j S_jw T_jw U_jw G_js R_w OC_o O_o B_h P_h N_h' L_h' E_h V_h G_h D_h O_h Z_h' R_h I_h)) [0, 1, 2, 3, 4, 5, 6, 7, 8, 9, 10, 11, 12] [13] (by decide)
  rw [lapp_agr (G := (gW cI cJ cZ q S_n T_n U_n S_r' T_r' U_r' G_s P_p I_i S_iw T_iw U_iw G_is I_j S_jw T_jw U_jw G_js R_w OC_o O_o B_h P_h N_h' L_h' E_h V_h G_h D_h O_h Z_h' R_h I_h)) (G' := (gW cI cJ cZ q S_n T_n U_n S_r' T_r' U_r' G_s P_p I_i S_iw T_iw U_iw G_is I_j S_jw T_jw U_jw G_js R_w OC_o O_o B_h P_h N_h L_h E_h V_h G_h D_h O_h Z_h R_h I_h)) [0, 1, 2, 3, 4, 5, 6, 7, 8, 9, 10, 11, 12] ⟨rfl, rfl, rfl, rfl, rfl, rfl, rfl, rfl, rfl, rfl, rfl, rfl, rfl, trivial⟩, lapp_1 (gW cI cJ cZ q S_n T_n U_n S_r' T_r' U_r' G_s P_p I_i S_iw T_iw U_iw G_is I_j S_jw T_jw U_jw G_js R_w OC_o O_o B_h P_h N_h' L_h' E_h V_h G_h D_h O_h Z_h' R_h I_h) 13, gW_13] at hpj2
  refine k_permP (ws' := gall (gW cI cJ cZ q S_n T_n U_n S_r' T_r' U_r' G_s P_p I_i S_iw T_iw U_iw G_is I_j S_jw T_jw U_jw G_js R_w OC_o O_o B_h P_h N_h' L_h' E_h V_h G_h D_h O_h Z_h' R_h I_h)) C hpj2 ?_
  refine k_st (K := K) [.int (iI r2), .int (iI r)] _ rfl rfl ?_
  obtain ⟨hm, hN'⟩ := hm
  obtain rfl := VHi_one hc hm
  exact k_icmp_same C dL_law_642 961 (by decide) (nx _ ⟨S_n, T_n, U_n, S_r', T_r', U_r', G_s, P_p, I_i, S_iw, T_iw, U_iw, G_is, I_j, S_jw, T_jw, U_jw, G_js, R_w, OC_o, O_o, B_h, P_h, N_h', L_h', E_h, V_h, G_h, D_h, O_h, Z_h', R_h, I_h, List.Perm.refl _, hI, hZ, hS, hT, hG, hP, hN', hi, hj⟩)
set_option maxHeartbeats 4000000 in
set_option maxRecDepth 20000 in
theorem lst_falls {D : va_G} {A : Nat → Prop} {l : Launch} {K : KT} {cI cJ cZ : ClassId} {q : Nat → Nat → Nat} {b cs sl : Nat} {f : Int → Int} {Ln i : Int} {ws : va_W} (C : KC cL_law RL wsL_law room_1 4 D (kT cI cJ cZ) A l false (fun _ _ => False) 0 0 K) (sld : ∀ {pc n : Nat} {lv : List (Nat × Value)} {st : List Value} {ws : va_W} {i : Int}, decode cL_law pc = .ok (.iaload, 1) → 0 ≤ i → i < Ln → pc + 1 = n → K cs sl n lv (.int (iI (f i)) :: st) ws → K cs sl pc lv (.int (iI i) :: .ref b :: st) ws) (hf : ∀ k, rI (f k)) (hcs : cs + 0 ≤ room_1.cells ∧ sl + 0 ≤ room_1.slots) (i0 : 0 ≤ i) (i1 : i + 4 < Ln) (hR : LRel cI cJ cZ q ws) (nx : ∀ ws', LRel cI cJ cZ q ws' → K cs sl 961 [(3, .int (iI i)), (2, .ref (q 13 0)), (1, .ref (q 0 0)), (0, .ref b)] [] ws') : K cs sl 647 [(3, .int (iI i)), (2, .ref (q 13 0)), (1, .ref (q 0 0)), (0, .ref b)] [] ws := by
  obtain ⟨S_n, T_n, U_n, S_r, T_r, U_r, G_s, P_p, I_i, S_iw, T_iw, U_iw, G_is, I_j, S_jw, T_jw, U_jw, G_js, R_w, OC_o, O_o, B_h, P_h, N_h, L_h, E_h, V_h, G_h, D_h, O_h, Z_h, R_h, I_h, hp, hI, hZ, hS, hT, hG, hP, hN, hi, hj⟩ := hR
  refine k_aload_n C dL_law_647 2 rfl rfl 648 rfl ?_
  refine k_aload_n C dL_law_648 3 rfl rfl 649 rfl ?_
  refine k_iload_n C dL_law_649 0 rfl rfl 650 rfl ?_
  refine k_iconst C dL_law_650 651 rfl ?_
  refine k_iadd C dL_law_651 652 rfl ?_
  refine sld dL_law_652 (by omega) (by omega) rfl ?_
  have hM := c_X6_falls (l := l) (D := D) (cI := cI) (cJ := cJ) (cZ := cZ) (q 0) (q 1) (q 2) (q 3) (q 4) (q 5) (q 8) (q 11) (q 12) S_n T_n U_n S_r T_r U_r (f (i + 1)) (fun (r : Int) (S_r' : gWS) (T_r' : gWT) (U_r' : gWU) => r = vFalls B_h P_h (f (i + 1))) (s_falls hI hS hT  (hf _) (fun _ _ _ => rfl) rfl)
  have hps := lw_split (G := (gW cI cJ cZ q S_n T_n U_n S_r T_r U_r G_s P_p I_i S_iw T_iw U_iw G_is I_j S_jw T_jw U_jw G_js R_w OC_o O_o B_h P_h N_h L_h E_h V_h G_h D_h O_h Z_h R_h I_h)) [0, 1, 2] [3, 4, 5, 6, 7, 8, 9, 10, 11, 12, 13] hp (by decide)
  rw [lapp_3 (gW cI cJ cZ q S_n T_n U_n S_r T_r U_r G_s P_p I_i S_iw T_iw U_iw G_is I_j S_jw T_jw U_jw G_js R_w OC_o O_o B_h P_h N_h L_h E_h V_h G_h D_h O_h Z_h R_h I_h) 0 1 2, gW_0, gW_1, gW_2] at hps
  refine k_callP (wr := lapp (gW cI cJ cZ q S_n T_n U_n S_r T_r U_r G_s P_p I_i S_iw T_iw U_iw G_is I_j S_jw T_jw U_jw G_js R_w OC_o O_o B_h P_h N_h L_h E_h V_h G_h D_h O_h Z_h R_h I_h) [3, 4, 5, 6, 7, 8, 9, 10, 11, 12, 13]) C dL_law_653 hM gL_law_X6_falls rfl sg_X6_falls 6 rfl rfl rfl (Nat.le_of_ble_eq_true rfl) ⟨⟨rfl, rfl⟩, Nat.le_of_ble_eq_true rfl, Nat.le_of_ble_eq_true rfl⟩ hcs hps cs sl ⟨rfl, rfl⟩ 656 rfl (fun v w1 hq => ?_)
  obtain ⟨r, S_r', T_r', U_r', rfl, rfl, hc⟩ := hq
  have hpj := lw_join (G := (gW cI cJ cZ q S_n T_n U_n S_r' T_r' U_r' G_s P_p I_i S_iw T_iw U_iw G_is I_j S_jw T_jw U_jw G_js R_w OC_o O_o B_h P_h N_h L_h E_h V_h G_h D_h O_h Z_h R_h I_h)) [3, 4, 5, 6, 7, 8, 9, 10, 11, 12, 13] [0, 1, 2] (by decide)
  rw [lapp_agr (G := (gW cI cJ cZ q S_n T_n U_n S_r' T_r' U_r' G_s P_p I_i S_iw T_iw U_iw G_is I_j S_jw T_jw U_jw G_js R_w OC_o O_o B_h P_h N_h L_h E_h V_h G_h D_h O_h Z_h R_h I_h)) (G' := (gW cI cJ cZ q S_n T_n U_n S_r T_r U_r G_s P_p I_i S_iw T_iw U_iw G_is I_j S_jw T_jw U_jw G_js R_w OC_o O_o B_h P_h N_h L_h E_h V_h G_h D_h O_h Z_h R_h I_h)) [3, 4, 5, 6, 7, 8, 9, 10, 11, 12, 13] ⟨rfl, rfl, rfl, rfl, rfl, rfl, rfl, rfl, rfl, rfl, rfl, trivial⟩, lapp_3 (gW cI cJ cZ q S_n T_n U_n S_r' T_r' U_r' G_s P_p I_i S_iw T_iw U_iw G_is I_j S_jw T_jw U_jw G_js R_w OC_o O_o B_h P_h N_h L_h E_h V_h G_h D_h O_h Z_h R_h I_h) 0 1 2, gW_0, gW_1, gW_2] at hpj
  refine k_permP (ws' := gall (gW cI cJ cZ q S_n T_n U_n S_r' T_r' U_r' G_s P_p I_i S_iw T_iw U_iw G_is I_j S_jw T_jw U_jw G_js R_w OC_o O_o B_h P_h N_h L_h E_h V_h G_h D_h O_h Z_h R_h I_h)) C hpj ?_
  refine k_st (K := K) [.int (iI r)] _ rfl rfl ?_
  refine k_aload_n C dL_law_656 1 rfl rfl 657 rfl ?_
  refine k_aload_n C dL_law_657 3 rfl rfl 658 rfl ?_
  refine k_iload_n C dL_law_658 0 rfl rfl 659 rfl ?_
  refine k_iconst C dL_law_659 660 rfl ?_
  refine k_iadd C dL_law_660 661 rfl ?_
  refine sld dL_law_661 (by omega) (by omega) rfl ?_
  have hM := c_X7_falls (l := l) (D := D) (cI := cI) (cJ := cJ) (cZ := cZ) (q 13) B_h P_h N_h L_h E_h V_h G_h D_h O_h Z_h R_h I_h (f (i + 1)) (fun (r : Int) (N_h' : gMN) (L_h' : gML) => r = vFalls B_h P_h (f (i + 1)) ∧ Scr N_h' L_h') (s_X7_falls hI hN  (hf _) (fun N' L' h => ⟨rfl, h⟩))
  have hps := lw_split (G := (gW cI cJ cZ q S_n T_n U_n S_r' T_r' U_r' G_s P_p I_i S_iw T_iw U_iw G_is I_j S_jw T_jw U_jw G_js R_w OC_o O_o B_h P_h N_h L_h E_h V_h G_h D_h O_h Z_h R_h I_h)) [13] [0, 1, 2, 3, 4, 5, 6, 7, 8, 9, 10, 11, 12] (List.Perm.refl _) (by decide)
  rw [lapp_1 (gW cI cJ cZ q S_n T_n U_n S_r' T_r' U_r' G_s P_p I_i S_iw T_iw U_iw G_is I_j S_jw T_jw U_jw G_js R_w OC_o O_o B_h P_h N_h L_h E_h V_h G_h D_h O_h Z_h R_h I_h) 13, gW_13] at hps
  refine k_callP (wr := lapp (gW cI cJ cZ q S_n T_n U_n S_r' T_r' U_r' G_s P_p I_i S_iw T_iw U_iw G_is I_j S_jw T_jw U_jw G_js R_w OC_o O_o B_h P_h N_h L_h E_h V_h G_h D_h O_h Z_h R_h I_h) [0, 1, 2, 3, 4, 5, 6, 7, 8, 9, 10, 11, 12]) C dL_law_662 hM gL_law_X7_falls rfl sg_X7_falls 7 rfl rfl rfl (Nat.le_of_ble_eq_true rfl) ⟨⟨rfl, rfl⟩, Nat.le_of_ble_eq_true rfl, Nat.le_of_ble_eq_true rfl⟩ hcs hps cs sl ⟨rfl, rfl⟩ 665 rfl (fun v w1 hq => ?_)
  obtain ⟨r2, N_h', L_h', rfl, rfl, hm⟩ := hq
  have hpj2 := lw_join (G := (gW cI cJ cZ q S_n T_n U_n S_r' T_r' U_r' G_s P_p I_i S_iw T_iw U_iw G_is I_j S_jw T_jw U_jw G_js R_w OC_o O_o B_h P_h N_h' L_h' E_h V_h G_h D_h O_h Z_h R_h I_h)) [0, 1, 2, 3, 4, 5, 6, 7, 8, 9, 10, 11, 12] [13] (by decide)
  rw [lapp_agr (G := (gW cI cJ cZ q S_n T_n U_n S_r' T_r' U_r' G_s P_p I_i S_iw T_iw U_iw G_is I_j S_jw T_jw U_jw G_js R_w OC_o O_o B_h P_h N_h' L_h' E_h V_h G_h D_h O_h Z_h R_h I_h)) (G' := (gW cI cJ cZ q S_n T_n U_n S_r' T_r' U_r' G_s P_p I_i S_iw T_iw U_iw G_is I_j S_jw T_jw U_jw G_js R_w OC_o O_o B_h P_h N_h L_h E_h V_h G_h D_h O_h Z_h R_h I_h)) [0, 1, 2, 3, 4, 5, 6, 7, 8, 9, 10, 11, 12] ⟨rfl, rfl, rfl, rfl, rfl, rfl, rfl, rfl, rfl, rfl, rfl, rfl, rfl, trivial⟩, lapp_1 (gW cI cJ cZ q S_n T_n U_n S_r' T_r' U_r' G_s P_p I_i S_iw T_iw U_iw G_is I_j S_jw T_jw U_jw G_js R_w OC_o O_o B_h P_h N_h' L_h' E_h V_h G_h D_h O_h Z_h R_h I_h) 13, gW_13] at hpj2
  refine k_permP (ws' := gall (gW cI cJ cZ q S_n T_n U_n S_r' T_r' U_r' G_s P_p I_i S_iw T_iw U_iw G_is I_j S_jw T_jw U_jw G_js R_w OC_o O_o B_h P_h N_h' L_h' E_h V_h G_h D_h O_h Z_h R_h I_h)) C hpj2 ?_
  refine k_st (K := K) [.int (iI r2), .int (iI r)] _ rfl rfl ?_
  subst hc
  obtain ⟨rfl, hN'⟩ := hm
  exact k_icmp_same C dL_law_665 961 (by decide) (nx _ ⟨S_n, T_n, U_n, S_r', T_r', U_r', G_s, P_p, I_i, S_iw, T_iw, U_iw, G_is, I_j, S_jw, T_jw, U_jw, G_js, R_w, OC_o, O_o, B_h, P_h, N_h', L_h', E_h, V_h, G_h, D_h, O_h, Z_h, R_h, I_h, List.Perm.refl _, hI, hZ, hS, hT, hG, hP, hN', hi, hj⟩)
set_option maxHeartbeats 4000000 in
set_option maxRecDepth 20000 in
theorem lst_key {D : va_G} {A : Nat → Prop} {l : Launch} {K : KT} {cI cJ cZ : ClassId} {q : Nat → Nat → Nat} {b cs sl : Nat} {f : Int → Int} {Ln i : Int} {ws : va_W} (C : KC cL_law RL wsL_law room_1 4 D (kT cI cJ cZ) A l false (fun _ _ => False) 0 0 K) (sld : ∀ {pc n : Nat} {lv : List (Nat × Value)} {st : List Value} {ws : va_W} {i : Int}, decode cL_law pc = .ok (.iaload, 1) → 0 ≤ i → i < Ln → pc + 1 = n → K cs sl n lv (.int (iI (f i)) :: st) ws → K cs sl pc lv (.int (iI i) :: .ref b :: st) ws) (hf : ∀ k, rI (f k)) (hcs : cs + 0 ≤ room_1.cells ∧ sl + 0 ≤ room_1.slots) (i0 : 0 ≤ i) (i1 : i + 4 < Ln) (hR : LRel cI cJ cZ q ws) (nx : ∀ ws', LRel cI cJ cZ q ws' → K cs sl 961 [(3, .int (iI i)), (2, .ref (q 13 0)), (1, .ref (q 0 0)), (0, .ref b)] [] ws') : K cs sl 670 [(3, .int (iI i)), (2, .ref (q 13 0)), (1, .ref (q 0 0)), (0, .ref b)] [] ws := by
  obtain ⟨S_n, T_n, U_n, S_r, T_r, U_r, G_s, P_p, I_i, S_iw, T_iw, U_iw, G_is, I_j, S_jw, T_jw, U_jw, G_js, R_w, OC_o, O_o, B_h, P_h, N_h, L_h, E_h, V_h, G_h, D_h, O_h, Z_h, R_h, I_h, hp, hI, hZ, hS, hT, hG, hP, hN, hi, hj⟩ := hR
  refine k_aload_n C dL_law_670 2 rfl rfl 671 rfl ?_
  refine k_aload_n C dL_law_671 3 rfl rfl 672 rfl ?_
  refine k_iload_n C dL_law_672 0 rfl rfl 673 rfl ?_
  refine k_iconst C dL_law_673 674 rfl ?_
  refine k_iadd C dL_law_674 675 rfl ?_
  refine sld dL_law_675 (by omega) (by omega) rfl ?_
  have hM := c_X6_key (l := l) (D := D) (cI := cI) (cJ := cJ) (cZ := cZ) (q 0) (q 1) (q 2) (q 3) (q 4) (q 5) (q 8) (q 11) (q 12) S_n T_n U_n S_r T_r U_r (f (i + 1)) (fun (r : Int) (S_r' : gWS) (T_r' : gWT) (U_r' : gWU) => r = vKey B_h P_h (f (i + 1))) (s_key hI hS hT  (hf _) (fun _ _ _ => rfl))
  have hps := lw_split (G := (gW cI cJ cZ q S_n T_n U_n S_r T_r U_r G_s P_p I_i S_iw T_iw U_iw G_is I_j S_jw T_jw U_jw G_js R_w OC_o O_o B_h P_h N_h L_h E_h V_h G_h D_h O_h Z_h R_h I_h)) [0, 1, 2] [3, 4, 5, 6, 7, 8, 9, 10, 11, 12, 13] hp (by decide)
  rw [lapp_3 (gW cI cJ cZ q S_n T_n U_n S_r T_r U_r G_s P_p I_i S_iw T_iw U_iw G_is I_j S_jw T_jw U_jw G_js R_w OC_o O_o B_h P_h N_h L_h E_h V_h G_h D_h O_h Z_h R_h I_h) 0 1 2, gW_0, gW_1, gW_2] at hps
  refine k_callP (wr := lapp (gW cI cJ cZ q S_n T_n U_n S_r T_r U_r G_s P_p I_i S_iw T_iw U_iw G_is I_j S_jw T_jw U_jw G_js R_w OC_o O_o B_h P_h N_h L_h E_h V_h G_h D_h O_h Z_h R_h I_h) [3, 4, 5, 6, 7, 8, 9, 10, 11, 12, 13]) C dL_law_676 hM gL_law_X6_key rfl sg_X6_key 6 rfl rfl rfl (Nat.le_of_ble_eq_true rfl) ⟨⟨rfl, rfl⟩, Nat.le_of_ble_eq_true rfl, Nat.le_of_ble_eq_true rfl⟩ hcs hps cs sl ⟨rfl, rfl⟩ 679 rfl (fun v w1 hq => ?_)
  obtain ⟨r, S_r', T_r', U_r', rfl, rfl, hc⟩ := hq
  have hpj := lw_join (G := (gW cI cJ cZ q S_n T_n U_n S_r' T_r' U_r' G_s P_p I_i S_iw T_iw U_iw G_is I_j S_jw T_jw U_jw G_js R_w OC_o O_o B_h P_h N_h L_h E_h V_h G_h D_h O_h Z_h R_h I_h)) [3, 4, 5, 6, 7, 8, 9, 10, 11, 12, 13] [0, 1, 2] (by decide)
  rw [lapp_agr (G := (gW cI cJ cZ q S_n T_n U_n S_r' T_r' U_r' G_s P_p I_i S_iw T_iw U_iw G_is I_j S_jw T_jw U_jw G_js R_w OC_o O_o B_h P_h N_h L_h E_h V_h G_h D_h O_h Z_h R_h I_h)) (G' := (gW cI cJ cZ q S_n T_n U_n S_r T_r U_r G_s P_p I_i S_iw T_iw U_iw G_is I_j S_jw T_jw U_jw G_js R_w OC_o O_o B_h P_h N_h L_h E_h V_h G_h D_h O_h Z_h R_h I_h)) [3, 4, 5, 6, 7, 8, 9, 10, 11, 12, 13] ⟨rfl, rfl, rfl, rfl, rfl, rfl, rfl, rfl, rfl, rfl, rfl, trivial⟩, lapp_3 (gW cI cJ cZ q S_n T_n U_n S_r' T_r' U_r' G_s P_p I_i S_iw T_iw U_iw G_is I_j S_jw T_jw U_jw G_js R_w OC_o O_o B_h P_h N_h L_h E_h V_h G_h D_h O_h Z_h R_h I_h) 0 1 2, gW_0, gW_1, gW_2] at hpj
  refine k_permP (ws' := gall (gW cI cJ cZ q S_n T_n U_n S_r' T_r' U_r' G_s P_p I_i S_iw T_iw U_iw G_is I_j S_jw T_jw U_jw G_js R_w OC_o O_o B_h P_h N_h L_h E_h V_h G_h D_h O_h Z_h R_h I_h)) C hpj ?_
  refine k_st (K := K) [.int (iI r)] _ rfl rfl ?_
  refine k_aload_n C dL_law_679 1 rfl rfl 680 rfl ?_
  refine k_aload_n C dL_law_680 3 rfl rfl 681 rfl ?_
  refine k_iload_n C dL_law_681 0 rfl rfl 682 rfl ?_
  refine k_iconst C dL_law_682 683 rfl ?_
  refine k_iadd C dL_law_683 684 rfl ?_
  refine sld dL_law_684 (by omega) (by omega) rfl ?_
  have hM := c_X7_key (l := l) (D := D) (cI := cI) (cJ := cJ) (cZ := cZ) (q 13) B_h P_h N_h L_h E_h V_h G_h D_h O_h Z_h R_h I_h (f (i + 1)) (fun (r : Int) (N_h' : gMN) (L_h' : gML) => r = vKey B_h P_h (f (i + 1)) ∧ Scr N_h' L_h') (s_X7_key hI hN  (hf _) (fun N' L' h => ⟨rfl, h⟩))
  have hps := lw_split (G := (gW cI cJ cZ q S_n T_n U_n S_r' T_r' U_r' G_s P_p I_i S_iw T_iw U_iw G_is I_j S_jw T_jw U_jw G_js R_w OC_o O_o B_h P_h N_h L_h E_h V_h G_h D_h O_h Z_h R_h I_h)) [13] [0, 1, 2, 3, 4, 5, 6, 7, 8, 9, 10, 11, 12] (List.Perm.refl _) (by decide)
  rw [lapp_1 (gW cI cJ cZ q S_n T_n U_n S_r' T_r' U_r' G_s P_p I_i S_iw T_iw U_iw G_is I_j S_jw T_jw U_jw G_js R_w OC_o O_o B_h P_h N_h L_h E_h V_h G_h D_h O_h Z_h R_h I_h) 13, gW_13] at hps
  refine k_callP (wr := lapp (gW cI cJ cZ q S_n T_n U_n S_r' T_r' U_r' G_s P_p I_i S_iw T_iw U_iw G_is I_j S_jw T_jw U_jw G_js R_w OC_o O_o B_h P_h N_h L_h E_h V_h G_h D_h O_h Z_h R_h I_h) [0, 1, 2, 3, 4, 5, 6, 7, 8, 9, 10, 11, 12]) C dL_law_685 hM gL_law_X7_key rfl sg_X7_key 7 rfl rfl rfl (Nat.le_of_ble_eq_true rfl) ⟨⟨rfl, rfl⟩, Nat.le_of_ble_eq_true rfl, Nat.le_of_ble_eq_true rfl⟩ hcs hps cs sl ⟨rfl, rfl⟩ 688 rfl (fun v w1 hq => ?_)
  obtain ⟨r2, N_h', L_h', rfl, rfl, hm⟩ := hq
  have hpj2 := lw_join (G := (gW cI cJ cZ q S_n T_n U_n S_r' T_r' U_r' G_s P_p I_i S_iw T_iw U_iw G_is I_j S_jw T_jw U_jw G_js R_w OC_o O_o B_h P_h N_h' L_h' E_h V_h G_h D_h O_h Z_h R_h I_h)) [0, 1, 2, 3, 4, 5, 6, 7, 8, 9, 10, 11, 12] [13] (by decide)
  rw [lapp_agr (G := (gW cI cJ cZ q S_n T_n U_n S_r' T_r' U_r' G_s P_p I_i S_iw T_iw U_iw G_is I_j S_jw T_jw U_jw G_js R_w OC_o O_o B_h P_h N_h' L_h' E_h V_h G_h D_h O_h Z_h R_h I_h)) (G' := (gW cI cJ cZ q S_n T_n U_n S_r' T_r' U_r' G_s P_p I_i S_iw T_iw U_iw G_is I_j S_jw T_jw U_jw G_js R_w OC_o O_o B_h P_h N_h L_h E_h V_h G_h D_h O_h Z_h R_h I_h)) [0, 1, 2, 3, 4, 5, 6, 7, 8, 9, 10, 11, 12] ⟨rfl, rfl, rfl, rfl, rfl, rfl, rfl, rfl, rfl, rfl, rfl, rfl, rfl, trivial⟩, lapp_1 (gW cI cJ cZ q S_n T_n U_n S_r' T_r' U_r' G_s P_p I_i S_iw T_iw U_iw G_is I_j S_jw T_jw U_jw G_js R_w OC_o O_o B_h P_h N_h' L_h' E_h V_h G_h D_h O_h Z_h R_h I_h) 13, gW_13] at hpj2
  refine k_permP (ws' := gall (gW cI cJ cZ q S_n T_n U_n S_r' T_r' U_r' G_s P_p I_i S_iw T_iw U_iw G_is I_j S_jw T_jw U_jw G_js R_w OC_o O_o B_h P_h N_h' L_h' E_h V_h G_h D_h O_h Z_h R_h I_h)) C hpj2 ?_
  refine k_st (K := K) [.int (iI r2), .int (iI r)] _ rfl rfl ?_
  subst hc
  obtain ⟨rfl, hN'⟩ := hm
  exact k_icmp_same C dL_law_688 961 (by decide) (nx _ ⟨S_n, T_n, U_n, S_r', T_r', U_r', G_s, P_p, I_i, S_iw, T_iw, U_iw, G_is, I_j, S_jw, T_jw, U_jw, G_js, R_w, OC_o, O_o, B_h, P_h, N_h', L_h', E_h, V_h, G_h, D_h, O_h, Z_h, R_h, I_h, List.Perm.refl _, hI, hZ, hS, hT, hG, hP, hN', hi, hj⟩)
set_option maxHeartbeats 4000000 in
set_option maxRecDepth 20000 in
theorem lst_seen {D : va_G} {A : Nat → Prop} {l : Launch} {K : KT} {cI cJ cZ : ClassId} {q : Nat → Nat → Nat} {b cs sl : Nat} {f : Int → Int} {Ln i : Int} {ws : va_W} (C : KC cL_law RL wsL_law room_1 4 D (kT cI cJ cZ) A l false (fun _ _ => False) 0 0 K) (sld : ∀ {pc n : Nat} {lv : List (Nat × Value)} {st : List Value} {ws : va_W} {i : Int}, decode cL_law pc = .ok (.iaload, 1) → 0 ≤ i → i < Ln → pc + 1 = n → K cs sl n lv (.int (iI (f i)) :: st) ws → K cs sl pc lv (.int (iI i) :: .ref b :: st) ws) (hf : ∀ k, rI (f k)) (hcs : cs + 0 ≤ room_1.cells ∧ sl + 0 ≤ room_1.slots) (i0 : 0 ≤ i) (i1 : i + 4 < Ln) (hR : LRel cI cJ cZ q ws) (nx : ∀ ws', LRel cI cJ cZ q ws' → K cs sl 961 [(3, .int (iI i)), (2, .ref (q 13 0)), (1, .ref (q 0 0)), (0, .ref b)] [] ws') : K cs sl 693 [(3, .int (iI i)), (2, .ref (q 13 0)), (1, .ref (q 0 0)), (0, .ref b)] [] ws := by
  obtain ⟨S_n, T_n, U_n, S_r, T_r, U_r, G_s, P_p, I_i, S_iw, T_iw, U_iw, G_is, I_j, S_jw, T_jw, U_jw, G_js, R_w, OC_o, O_o, B_h, P_h, N_h, L_h, E_h, V_h, G_h, D_h, O_h, Z_h, R_h, I_h, hp, hI, hZ, hS, hT, hG, hP, hN, hi, hj⟩ := hR
  refine k_aload_n C dL_law_693 2 rfl rfl 694 rfl ?_
  refine k_aload_n C dL_law_694 3 rfl rfl 695 rfl ?_
  refine k_iload_n C dL_law_695 0 rfl rfl 696 rfl ?_
  refine k_iconst C dL_law_696 697 rfl ?_
  refine k_iadd C dL_law_697 698 rfl ?_
  refine sld dL_law_698 (by omega) (by omega) rfl ?_
  refine k_aload_n C dL_law_699 3 rfl rfl 700 rfl ?_
  refine k_iload_n C dL_law_700 0 rfl rfl 701 rfl ?_
  refine k_iconst C dL_law_701 702 rfl ?_
  refine k_iadd C dL_law_702 703 rfl ?_
  refine sld dL_law_703 (by omega) (by omega) rfl ?_
  have hM := c_X6_seen (l := l) (D := D) (cI := cI) (cJ := cJ) (cZ := cZ) (q 0) (q 1) (q 2) (q 3) (q 4) (q 5) (q 8) (q 11) (q 12) S_n T_n U_n G_s (f (i + 1)) (f (i + 2)) (fun (r : Int) (G_s' : gGG) => r = (vSeen B_h.1 G_h (f (i + 1)) (f (i + 2))).1 ∧ GR B_h.1 G_s' (vSeen B_h.1 G_h (f (i + 1)) (f (i + 2))).2) (s_seen hI.1 hS hG (hf _) (hf _) (fun G' h => ⟨rfl, h⟩))
  have hps := lw_split (G := (gW cI cJ cZ q S_n T_n U_n S_r T_r U_r G_s P_p I_i S_iw T_iw U_iw G_is I_j S_jw T_jw U_jw G_js R_w OC_o O_o B_h P_h N_h L_h E_h V_h G_h D_h O_h Z_h R_h I_h)) [0, 1, 3] [2, 4, 5, 6, 7, 8, 9, 10, 11, 12, 13] hp (by decide)
  rw [lapp_3 (gW cI cJ cZ q S_n T_n U_n S_r T_r U_r G_s P_p I_i S_iw T_iw U_iw G_is I_j S_jw T_jw U_jw G_js R_w OC_o O_o B_h P_h N_h L_h E_h V_h G_h D_h O_h Z_h R_h I_h) 0 1 3, gW_0, gW_1, gW_3] at hps
  refine k_callP (wr := lapp (gW cI cJ cZ q S_n T_n U_n S_r T_r U_r G_s P_p I_i S_iw T_iw U_iw G_is I_j S_jw T_jw U_jw G_js R_w OC_o O_o B_h P_h N_h L_h E_h V_h G_h D_h O_h Z_h R_h I_h) [2, 4, 5, 6, 7, 8, 9, 10, 11, 12, 13]) C dL_law_704 hM gL_law_X6_seen rfl sg_X6_seen 6 rfl rfl rfl (Nat.le_of_ble_eq_true rfl) ⟨⟨rfl, rfl⟩, Nat.le_of_ble_eq_true rfl, Nat.le_of_ble_eq_true rfl⟩ hcs hps cs sl ⟨rfl, rfl⟩ 707 rfl (fun v w1 hq => ?_)
  obtain ⟨r, G_s', rfl, rfl, hc⟩ := hq
  have hpj := lw_join (G := (gW cI cJ cZ q S_n T_n U_n S_r T_r U_r G_s' P_p I_i S_iw T_iw U_iw G_is I_j S_jw T_jw U_jw G_js R_w OC_o O_o B_h P_h N_h L_h E_h V_h G_h D_h O_h Z_h R_h I_h)) [2, 4, 5, 6, 7, 8, 9, 10, 11, 12, 13] [0, 1, 3] (by decide)
  rw [lapp_agr (G := (gW cI cJ cZ q S_n T_n U_n S_r T_r U_r G_s' P_p I_i S_iw T_iw U_iw G_is I_j S_jw T_jw U_jw G_js R_w OC_o O_o B_h P_h N_h L_h E_h V_h G_h D_h O_h Z_h R_h I_h)) (G' := (gW cI cJ cZ q S_n T_n U_n S_r T_r U_r G_s P_p I_i S_iw T_iw U_iw G_is I_j S_jw T_jw U_jw G_js R_w OC_o O_o B_h P_h N_h L_h E_h V_h G_h D_h O_h Z_h R_h I_h)) [2, 4, 5, 6, 7, 8, 9, 10, 11, 12, 13] ⟨rfl, rfl, rfl, rfl, rfl, rfl, rfl, rfl, rfl, rfl, rfl, trivial⟩, lapp_3 (gW cI cJ cZ q S_n T_n U_n S_r T_r U_r G_s' P_p I_i S_iw T_iw U_iw G_is I_j S_jw T_jw U_jw G_js R_w OC_o O_o B_h P_h N_h L_h E_h V_h G_h D_h O_h Z_h R_h I_h) 0 1 3, gW_0, gW_1, gW_3] at hpj
  refine k_permP (ws' := gall (gW cI cJ cZ q S_n T_n U_n S_r T_r U_r G_s' P_p I_i S_iw T_iw U_iw G_is I_j S_jw T_jw U_jw G_js R_w OC_o O_o B_h P_h N_h L_h E_h V_h G_h D_h O_h Z_h R_h I_h)) C hpj ?_
  refine k_st (K := K) [.int (iI r)] _ rfl rfl ?_
  refine k_aload_n C dL_law_707 1 rfl rfl 708 rfl ?_
  refine k_aload_n C dL_law_708 3 rfl rfl 709 rfl ?_
  refine k_iload_n C dL_law_709 0 rfl rfl 710 rfl ?_
  refine k_iconst C dL_law_710 711 rfl ?_
  refine k_iadd C dL_law_711 712 rfl ?_
  refine sld dL_law_712 (by omega) (by omega) rfl ?_
  refine k_aload_n C dL_law_713 3 rfl rfl 714 rfl ?_
  refine k_iload_n C dL_law_714 0 rfl rfl 715 rfl ?_
  refine k_iconst C dL_law_715 716 rfl ?_
  refine k_iadd C dL_law_716 717 rfl ?_
  refine sld dL_law_717 (by omega) (by omega) rfl ?_
  have hM := c_X7_seen (l := l) (D := D) (cI := cI) (cJ := cJ) (cZ := cZ) (q 13) B_h P_h N_h L_h E_h V_h G_h D_h O_h Z_h R_h I_h (f (i + 1)) (f (i + 2)) (fun (r : Int) (G_h' : gMG) => r = (vSeen B_h.1 G_h (f (i + 1)) (f (i + 2))).1 ∧ G_h' = (vSeen B_h.1 G_h (f (i + 1)) (f (i + 2))).2) (s_X7_seen hI.1 hG.2.1 (hf _) (hf _) ⟨rfl, rfl⟩)
  have hps := lw_split (G := (gW cI cJ cZ q S_n T_n U_n S_r T_r U_r G_s' P_p I_i S_iw T_iw U_iw G_is I_j S_jw T_jw U_jw G_js R_w OC_o O_o B_h P_h N_h L_h E_h V_h G_h D_h O_h Z_h R_h I_h)) [13] [0, 1, 2, 3, 4, 5, 6, 7, 8, 9, 10, 11, 12] (List.Perm.refl _) (by decide)
  rw [lapp_1 (gW cI cJ cZ q S_n T_n U_n S_r T_r U_r G_s' P_p I_i S_iw T_iw U_iw G_is I_j S_jw T_jw U_jw G_js R_w OC_o O_o B_h P_h N_h L_h E_h V_h G_h D_h O_h Z_h R_h I_h) 13, gW_13] at hps
  refine k_callP (wr := lapp (gW cI cJ cZ q S_n T_n U_n S_r T_r U_r G_s' P_p I_i S_iw T_iw U_iw G_is I_j S_jw T_jw U_jw G_js R_w OC_o O_o B_h P_h N_h L_h E_h V_h G_h D_h O_h Z_h R_h I_h) [0, 1, 2, 3, 4, 5, 6, 7, 8, 9, 10, 11, 12]) C dL_law_718 hM gL_law_X7_seen rfl sg_X7_seen 7 rfl rfl rfl (Nat.le_of_ble_eq_true rfl) ⟨⟨rfl, rfl⟩, Nat.le_of_ble_eq_true rfl, Nat.le_of_ble_eq_true rfl⟩ hcs hps cs sl ⟨rfl, rfl⟩ 721 rfl (fun v w1 hq => ?_)
  obtain ⟨r2, G_h', rfl, rfl, hm⟩ := hq
  have hpj2 := lw_join (G := (gW cI cJ cZ q S_n T_n U_n S_r T_r U_r G_s' P_p I_i S_iw T_iw U_iw G_is I_j S_jw T_jw U_jw G_js R_w OC_o O_o B_h P_h N_h L_h E_h V_h G_h' D_h O_h Z_h R_h I_h)) [0, 1, 2, 3, 4, 5, 6, 7, 8, 9, 10, 11, 12] [13] (by decide)
  rw [lapp_agr (G := (gW cI cJ cZ q S_n T_n U_n S_r T_r U_r G_s' P_p I_i S_iw T_iw U_iw G_is I_j S_jw T_jw U_jw G_js R_w OC_o O_o B_h P_h N_h L_h E_h V_h G_h' D_h O_h Z_h R_h I_h)) (G' := (gW cI cJ cZ q S_n T_n U_n S_r T_r U_r G_s' P_p I_i S_iw T_iw U_iw G_is I_j S_jw T_jw U_jw G_js R_w OC_o O_o B_h P_h N_h L_h E_h V_h G_h D_h O_h Z_h R_h I_h)) [0, 1, 2, 3, 4, 5, 6, 7, 8, 9, 10, 11, 12] ⟨rfl, rfl, rfl, rfl, rfl, rfl, rfl, rfl, rfl, rfl, rfl, rfl, rfl, trivial⟩, lapp_1 (gW cI cJ cZ q S_n T_n U_n S_r T_r U_r G_s' P_p I_i S_iw T_iw U_iw G_is I_j S_jw T_jw U_jw G_js R_w OC_o O_o B_h P_h N_h L_h E_h V_h G_h' D_h O_h Z_h R_h I_h) 13, gW_13] at hpj2
  refine k_permP (ws' := gall (gW cI cJ cZ q S_n T_n U_n S_r T_r U_r G_s' P_p I_i S_iw T_iw U_iw G_is I_j S_jw T_jw U_jw G_js R_w OC_o O_o B_h P_h N_h L_h E_h V_h G_h' D_h O_h Z_h R_h I_h)) C hpj2 ?_
  refine k_st (K := K) [.int (iI r2), .int (iI r)] _ rfl rfl ?_
  obtain ⟨rfl, hG'⟩ := hc
  obtain ⟨rfl, rfl⟩ := hm
  exact k_icmp_same C dL_law_721 961 (by decide) (nx _ ⟨S_n, T_n, U_n, S_r, T_r, U_r, G_s', P_p, I_i, S_iw, T_iw, U_iw, G_is, I_j, S_jw, T_jw, U_jw, G_js, R_w, OC_o, O_o, B_h, P_h, N_h, L_h, E_h, V_h, (vSeen B_h.1 G_h (f (i + 1)) (f (i + 2))).2, D_h, O_h, Z_h, R_h, I_h, List.Perm.refl _, hI, hZ, hS, hT, hG', hP, hN, hi, hj⟩)
set_option maxHeartbeats 4000000 in
set_option maxRecDepth 20000 in
theorem lst_forget {D : va_G} {A : Nat → Prop} {l : Launch} {K : KT} {cI cJ cZ : ClassId} {q : Nat → Nat → Nat} {b cs sl : Nat} {f : Int → Int} {Ln i : Int} {ws : va_W} (C : KC cL_law RL wsL_law room_1 4 D (kT cI cJ cZ) A l false (fun _ _ => False) 0 0 K) (sld : ∀ {pc n : Nat} {lv : List (Nat × Value)} {st : List Value} {ws : va_W} {i : Int}, decode cL_law pc = .ok (.iaload, 1) → 0 ≤ i → i < Ln → pc + 1 = n → K cs sl n lv (.int (iI (f i)) :: st) ws → K cs sl pc lv (.int (iI i) :: .ref b :: st) ws) (hf : ∀ k, rI (f k)) (hcs : cs + 0 ≤ room_1.cells ∧ sl + 0 ≤ room_1.slots) (i0 : 0 ≤ i) (i1 : i + 4 < Ln) (hR : LRel cI cJ cZ q ws) (nx : ∀ ws', LRel cI cJ cZ q ws' → K cs sl 961 [(3, .int (iI i)), (2, .ref (q 13 0)), (1, .ref (q 0 0)), (0, .ref b)] [] ws') : K cs sl 726 [(3, .int (iI i)), (2, .ref (q 13 0)), (1, .ref (q 0 0)), (0, .ref b)] [] ws := by
  obtain ⟨S_n, T_n, U_n, S_r, T_r, U_r, G_s, P_p, I_i, S_iw, T_iw, U_iw, G_is, I_j, S_jw, T_jw, U_jw, G_js, R_w, OC_o, O_o, B_h, P_h, N_h, L_h, E_h, V_h, G_h, D_h, O_h, Z_h, R_h, I_h, hp, hI, hZ, hS, hT, hG, hP, hN, hi, hj⟩ := hR
  refine k_aload_n C dL_law_726 2 rfl rfl 727 rfl ?_
  have hM := c_X6_forget (l := l) (D := D) (cI := cI) (cJ := cJ) (cZ := cZ) (q 0) (q 1) (q 2) (q 3) (q 4) (q 5) (q 8) (q 11) (q 12) G_s (fun (r : Int) (G_s' : gGG) => r = G_h.1 ∧ GR B_h.1 G_s' (0, G_h.2)) (s_forget hG (fun G' h => ⟨rfl, h⟩))
  have hps := lw_split (G := (gW cI cJ cZ q S_n T_n U_n S_r T_r U_r G_s P_p I_i S_iw T_iw U_iw G_is I_j S_jw T_jw U_jw G_js R_w OC_o O_o B_h P_h N_h L_h E_h V_h G_h D_h O_h Z_h R_h I_h)) [0, 3] [1, 2, 4, 5, 6, 7, 8, 9, 10, 11, 12, 13] hp (by decide)
  rw [lapp_2 (gW cI cJ cZ q S_n T_n U_n S_r T_r U_r G_s P_p I_i S_iw T_iw U_iw G_is I_j S_jw T_jw U_jw G_js R_w OC_o O_o B_h P_h N_h L_h E_h V_h G_h D_h O_h Z_h R_h I_h) 0 3, gW_0, gW_3] at hps
  refine k_callP (wr := lapp (gW cI cJ cZ q S_n T_n U_n S_r T_r U_r G_s P_p I_i S_iw T_iw U_iw G_is I_j S_jw T_jw U_jw G_js R_w OC_o O_o B_h P_h N_h L_h E_h V_h G_h D_h O_h Z_h R_h I_h) [1, 2, 4, 5, 6, 7, 8, 9, 10, 11, 12, 13]) C dL_law_727 hM gL_law_X6_forget rfl sg_X6_forget 6 rfl rfl rfl (Nat.le_of_ble_eq_true rfl) ⟨⟨rfl, rfl⟩, Nat.le_of_ble_eq_true rfl, Nat.le_of_ble_eq_true rfl⟩ hcs hps cs sl ⟨rfl, rfl⟩ 730 rfl (fun v w1 hq => ?_)
  obtain ⟨r, G_s', rfl, rfl, hc⟩ := hq
  have hpj := lw_join (G := (gW cI cJ cZ q S_n T_n U_n S_r T_r U_r G_s' P_p I_i S_iw T_iw U_iw G_is I_j S_jw T_jw U_jw G_js R_w OC_o O_o B_h P_h N_h L_h E_h V_h G_h D_h O_h Z_h R_h I_h)) [1, 2, 4, 5, 6, 7, 8, 9, 10, 11, 12, 13] [0, 3] (by decide)
  rw [lapp_agr (G := (gW cI cJ cZ q S_n T_n U_n S_r T_r U_r G_s' P_p I_i S_iw T_iw U_iw G_is I_j S_jw T_jw U_jw G_js R_w OC_o O_o B_h P_h N_h L_h E_h V_h G_h D_h O_h Z_h R_h I_h)) (G' := (gW cI cJ cZ q S_n T_n U_n S_r T_r U_r G_s P_p I_i S_iw T_iw U_iw G_is I_j S_jw T_jw U_jw G_js R_w OC_o O_o B_h P_h N_h L_h E_h V_h G_h D_h O_h Z_h R_h I_h)) [1, 2, 4, 5, 6, 7, 8, 9, 10, 11, 12, 13] ⟨rfl, rfl, rfl, rfl, rfl, rfl, rfl, rfl, rfl, rfl, rfl, rfl, trivial⟩, lapp_2 (gW cI cJ cZ q S_n T_n U_n S_r T_r U_r G_s' P_p I_i S_iw T_iw U_iw G_is I_j S_jw T_jw U_jw G_js R_w OC_o O_o B_h P_h N_h L_h E_h V_h G_h D_h O_h Z_h R_h I_h) 0 3, gW_0, gW_3] at hpj
  refine k_permP (ws' := gall (gW cI cJ cZ q S_n T_n U_n S_r T_r U_r G_s' P_p I_i S_iw T_iw U_iw G_is I_j S_jw T_jw U_jw G_js R_w OC_o O_o B_h P_h N_h L_h E_h V_h G_h D_h O_h Z_h R_h I_h)) C hpj ?_
  refine k_st (K := K) [.int (iI r)] _ rfl rfl ?_
  refine k_aload_n C dL_law_730 1 rfl rfl 731 rfl ?_
  have hM := c_X7_forget (l := l) (D := D) (cI := cI) (cJ := cJ) (cZ := cZ) (q 13) B_h P_h N_h L_h E_h V_h G_h D_h O_h Z_h R_h I_h (fun (r : Int) (G_h' : gMG) => r = G_h.1 ∧ G_h' = (0, G_h.2)) (s_X7_forget ⟨rfl, rfl⟩)
  have hps := lw_split (G := (gW cI cJ cZ q S_n T_n U_n S_r T_r U_r G_s' P_p I_i S_iw T_iw U_iw G_is I_j S_jw T_jw U_jw G_js R_w OC_o O_o B_h P_h N_h L_h E_h V_h G_h D_h O_h Z_h R_h I_h)) [13] [0, 1, 2, 3, 4, 5, 6, 7, 8, 9, 10, 11, 12] (List.Perm.refl _) (by decide)
  rw [lapp_1 (gW cI cJ cZ q S_n T_n U_n S_r T_r U_r G_s' P_p I_i S_iw T_iw U_iw G_is I_j S_jw T_jw U_jw G_js R_w OC_o O_o B_h P_h N_h L_h E_h V_h G_h D_h O_h Z_h R_h I_h) 13, gW_13] at hps
  refine k_callP (wr := lapp (gW cI cJ cZ q S_n T_n U_n S_r T_r U_r G_s' P_p I_i S_iw T_iw U_iw G_is I_j S_jw T_jw U_jw G_js R_w OC_o O_o B_h P_h N_h L_h E_h V_h G_h D_h O_h Z_h R_h I_h) [0, 1, 2, 3, 4, 5, 6, 7, 8, 9, 10, 11, 12]) C dL_law_731 hM gL_law_X7_forget rfl sg_X7_forget 7 rfl rfl rfl (Nat.le_of_ble_eq_true rfl) ⟨⟨rfl, rfl⟩, Nat.le_of_ble_eq_true rfl, Nat.le_of_ble_eq_true rfl⟩ hcs hps cs sl ⟨rfl, rfl⟩ 734 rfl (fun v w1 hq => ?_)
  obtain ⟨r2, G_h', rfl, rfl, hm⟩ := hq
  have hpj2 := lw_join (G := (gW cI cJ cZ q S_n T_n U_n S_r T_r U_r G_s' P_p I_i S_iw T_iw U_iw G_is I_j S_jw T_jw U_jw G_js R_w OC_o O_o B_h P_h N_h L_h E_h V_h G_h' D_h O_h Z_h R_h I_h)) [0, 1, 2, 3, 4, 5, 6, 7, 8, 9, 10, 11, 12] [13] (by decide)
  rw [lapp_agr (G := (gW cI cJ cZ q S_n T_n U_n S_r T_r U_r G_s' P_p I_i S_iw T_iw U_iw G_is I_j S_jw T_jw U_jw G_js R_w OC_o O_o B_h P_h N_h L_h E_h V_h G_h' D_h O_h Z_h R_h I_h)) (G' := (gW cI cJ cZ q S_n T_n U_n S_r T_r U_r G_s' P_p I_i S_iw T_iw U_iw G_is I_j S_jw T_jw U_jw G_js R_w OC_o O_o B_h P_h N_h L_h E_h V_h G_h D_h O_h Z_h R_h I_h)) [0, 1, 2, 3, 4, 5, 6, 7, 8, 9, 10, 11, 12] ⟨rfl, rfl, rfl, rfl, rfl, rfl, rfl, rfl, rfl, rfl, rfl, rfl, rfl, trivial⟩, lapp_1 (gW cI cJ cZ q S_n T_n U_n S_r T_r U_r G_s' P_p I_i S_iw T_iw U_iw G_is I_j S_jw T_jw U_jw G_js R_w OC_o O_o B_h P_h N_h L_h E_h V_h G_h' D_h O_h Z_h R_h I_h) 13, gW_13] at hpj2
  refine k_permP (ws' := gall (gW cI cJ cZ q S_n T_n U_n S_r T_r U_r G_s' P_p I_i S_iw T_iw U_iw G_is I_j S_jw T_jw U_jw G_js R_w OC_o O_o B_h P_h N_h L_h E_h V_h G_h' D_h O_h Z_h R_h I_h)) C hpj2 ?_
  refine k_st (K := K) [.int (iI r2), .int (iI r)] _ rfl rfl ?_
  obtain ⟨rfl, hG'⟩ := hc
  obtain ⟨rfl, rfl⟩ := hm
  exact k_icmp_same C dL_law_734 961 (by decide) (nx _ ⟨S_n, T_n, U_n, S_r, T_r, U_r, G_s', P_p, I_i, S_iw, T_iw, U_iw, G_is, I_j, S_jw, T_jw, U_jw, G_js, R_w, OC_o, O_o, B_h, P_h, N_h, L_h, E_h, V_h, (0, G_h.2), D_h, O_h, Z_h, R_h, I_h, List.Perm.refl _, hI, hZ, hS, hT, hG', hP, hN, hi, hj⟩)
set_option maxHeartbeats 4000000 in
set_option maxRecDepth 20000 in
theorem lst_who {D : va_G} {A : Nat → Prop} {l : Launch} {K : KT} {cI cJ cZ : ClassId} {q : Nat → Nat → Nat} {b cs sl : Nat} {f : Int → Int} {Ln i : Int} {ws : va_W} (C : KC cL_law RL wsL_law room_1 4 D (kT cI cJ cZ) A l false (fun _ _ => False) 0 0 K) (sld : ∀ {pc n : Nat} {lv : List (Nat × Value)} {st : List Value} {ws : va_W} {i : Int}, decode cL_law pc = .ok (.iaload, 1) → 0 ≤ i → i < Ln → pc + 1 = n → K cs sl n lv (.int (iI (f i)) :: st) ws → K cs sl pc lv (.int (iI i) :: .ref b :: st) ws) (hf : ∀ k, rI (f k)) (hcs : cs + 0 ≤ room_1.cells ∧ sl + 0 ≤ room_1.slots) (i0 : 0 ≤ i) (i1 : i + 4 < Ln) (hR : LRel cI cJ cZ q ws) (nx : ∀ ws', LRel cI cJ cZ q ws' → K cs sl 961 [(3, .int (iI i)), (2, .ref (q 13 0)), (1, .ref (q 0 0)), (0, .ref b)] [] ws') : K cs sl 739 [(3, .int (iI i)), (2, .ref (q 13 0)), (1, .ref (q 0 0)), (0, .ref b)] [] ws := by
  obtain ⟨S_n, T_n, U_n, S_r, T_r, U_r, G_s, P_p, I_i, S_iw, T_iw, U_iw, G_is, I_j, S_jw, T_jw, U_jw, G_js, R_w, OC_o, O_o, B_h, P_h, N_h, L_h, E_h, V_h, G_h, D_h, O_h, Z_h, R_h, I_h, hp, hI, hZ, hS, hT, hG, hP, hN, hi, hj⟩ := hR
  refine k_aload_n C dL_law_739 2 rfl rfl 740 rfl ?_
  refine k_aload_n C dL_law_740 3 rfl rfl 741 rfl ?_
  refine k_iload_n C dL_law_741 0 rfl rfl 742 rfl ?_
  refine k_iconst C dL_law_742 743 rfl ?_
  refine k_iadd C dL_law_743 744 rfl ?_
  refine sld dL_law_744 (by omega) (by omega) rfl ?_
  refine k_aload_n C dL_law_745 3 rfl rfl 746 rfl ?_
  refine k_iload_n C dL_law_746 0 rfl rfl 747 rfl ?_
  refine k_iconst C dL_law_747 748 rfl ?_
  refine k_iadd C dL_law_748 749 rfl ?_
  refine sld dL_law_749 (by omega) (by omega) rfl ?_
  have hM := c_X6_who (l := l) (D := D) (cI := cI) (cJ := cJ) (cZ := cZ) (q 0) (q 1) (q 2) (q 3) (q 4) (q 5) (q 8) (q 11) (q 12) S_n T_n U_n S_r T_r U_r G_s R_w (f (i + 1)) (f (i + 2)) (fun (r : Int) (S_r' : gWS) (T_r' : gWT) (U_r' : gWU) (R_w' : gRR) => VWho B_h G_h P_h (f (i + 1)) (f (i + 2)) r) (s_who hI hS hT hG (hf _) (hf _) (fun v _ _ _ _ h => h))
  have hps := lw_split (G := (gW cI cJ cZ q S_n T_n U_n S_r T_r U_r G_s P_p I_i S_iw T_iw U_iw G_is I_j S_jw T_jw U_jw G_js R_w OC_o O_o B_h P_h N_h L_h E_h V_h G_h D_h O_h Z_h R_h I_h)) [0, 1, 2, 3, 11] [4, 5, 6, 7, 8, 9, 10, 12, 13] hp (by decide)
  rw [lapp_5 (gW cI cJ cZ q S_n T_n U_n S_r T_r U_r G_s P_p I_i S_iw T_iw U_iw G_is I_j S_jw T_jw U_jw G_js R_w OC_o O_o B_h P_h N_h L_h E_h V_h G_h D_h O_h Z_h R_h I_h) 0 1 2 3 11, gW_0, gW_1, gW_2, gW_3, gW_11] at hps
  refine k_callP (wr := lapp (gW cI cJ cZ q S_n T_n U_n S_r T_r U_r G_s P_p I_i S_iw T_iw U_iw G_is I_j S_jw T_jw U_jw G_js R_w OC_o O_o B_h P_h N_h L_h E_h V_h G_h D_h O_h Z_h R_h I_h) [4, 5, 6, 7, 8, 9, 10, 12, 13]) C dL_law_750 hM gL_law_X6_who rfl sg_X6_who 6 rfl rfl rfl (Nat.le_of_ble_eq_true rfl) ⟨⟨rfl, rfl⟩, Nat.le_of_ble_eq_true rfl, Nat.le_of_ble_eq_true rfl⟩ hcs hps cs sl ⟨rfl, rfl⟩ 753 rfl (fun v w1 hq => ?_)
  obtain ⟨r, S_r', T_r', U_r', R_w', rfl, rfl, hc⟩ := hq
  have hpj := lw_join (G := (gW cI cJ cZ q S_n T_n U_n S_r' T_r' U_r' G_s P_p I_i S_iw T_iw U_iw G_is I_j S_jw T_jw U_jw G_js R_w' OC_o O_o B_h P_h N_h L_h E_h V_h G_h D_h O_h Z_h R_h I_h)) [4, 5, 6, 7, 8, 9, 10, 12, 13] [0, 1, 2, 3, 11] (by decide)
  rw [lapp_agr (G := (gW cI cJ cZ q S_n T_n U_n S_r' T_r' U_r' G_s P_p I_i S_iw T_iw U_iw G_is I_j S_jw T_jw U_jw G_js R_w' OC_o O_o B_h P_h N_h L_h E_h V_h G_h D_h O_h Z_h R_h I_h)) (G' := (gW cI cJ cZ q S_n T_n U_n S_r T_r U_r G_s P_p I_i S_iw T_iw U_iw G_is I_j S_jw T_jw U_jw G_js R_w OC_o O_o B_h P_h N_h L_h E_h V_h G_h D_h O_h Z_h R_h I_h)) [4, 5, 6, 7, 8, 9, 10, 12, 13] ⟨rfl, rfl, rfl, rfl, rfl, rfl, rfl, rfl, rfl, trivial⟩, lapp_5 (gW cI cJ cZ q S_n T_n U_n S_r' T_r' U_r' G_s P_p I_i S_iw T_iw U_iw G_is I_j S_jw T_jw U_jw G_js R_w' OC_o O_o B_h P_h N_h L_h E_h V_h G_h D_h O_h Z_h R_h I_h) 0 1 2 3 11, gW_0, gW_1, gW_2, gW_3, gW_11] at hpj
  refine k_permP (ws' := gall (gW cI cJ cZ q S_n T_n U_n S_r' T_r' U_r' G_s P_p I_i S_iw T_iw U_iw G_is I_j S_jw T_jw U_jw G_js R_w' OC_o O_o B_h P_h N_h L_h E_h V_h G_h D_h O_h Z_h R_h I_h)) C hpj ?_
  refine k_st (K := K) [.int (iI r)] _ rfl rfl ?_
  refine k_aload_n C dL_law_753 1 rfl rfl 754 rfl ?_
  refine k_aload_n C dL_law_754 3 rfl rfl 755 rfl ?_
  refine k_iload_n C dL_law_755 0 rfl rfl 756 rfl ?_
  refine k_iconst C dL_law_756 757 rfl ?_
  refine k_iadd C dL_law_757 758 rfl ?_
  refine sld dL_law_758 (by omega) (by omega) rfl ?_
  refine k_aload_n C dL_law_759 3 rfl rfl 760 rfl ?_
  refine k_iload_n C dL_law_760 0 rfl rfl 761 rfl ?_
  refine k_iconst C dL_law_761 762 rfl ?_
  refine k_iadd C dL_law_762 763 rfl ?_
  refine sld dL_law_763 (by omega) (by omega) rfl ?_
  have hM := c_X7_who (l := l) (D := D) (cI := cI) (cJ := cJ) (cZ := cZ) (q 13) B_h P_h N_h L_h E_h V_h G_h D_h O_h Z_h R_h I_h (f (i + 1)) (f (i + 2)) (fun (r : Int) (N_h' : gMN) (L_h' : gML) (Z_h' : gMZ) (R_h' : gMR) => VWho B_h G_h P_h (f (i + 1)) (f (i + 2)) r ∧ Scr N_h' L_h') (s_X7_who hI hN hG (hf _) (hf _) (fun v N' L' _ _ hs h => ⟨h, hs⟩))
  have hps := lw_split (G := (gW cI cJ cZ q S_n T_n U_n S_r' T_r' U_r' G_s P_p I_i S_iw T_iw U_iw G_is I_j S_jw T_jw U_jw G_js R_w' OC_o O_o B_h P_h N_h L_h E_h V_h G_h D_h O_h Z_h R_h I_h)) [13] [0, 1, 2, 3, 4, 5, 6, 7, 8, 9, 10, 11, 12] (List.Perm.refl _) (by decide)
  rw [lapp_1 (gW cI cJ cZ q S_n T_n U_n S_r' T_r' U_r' G_s P_p I_i S_iw T_iw U_iw G_is I_j S_jw T_jw U_jw G_js R_w' OC_o O_o B_h P_h N_h L_h E_h V_h G_h D_h O_h Z_h R_h I_h) 13, gW_13] at hps
  refine k_callP (wr := lapp (gW cI cJ cZ q S_n T_n U_n S_r' T_r' U_r' G_s P_p I_i S_iw T_iw U_iw G_is I_j S_jw T_jw U_jw G_js R_w' OC_o O_o B_h P_h N_h L_h E_h V_h G_h D_h O_h Z_h R_h I_h) [0, 1, 2, 3, 4, 5, 6, 7, 8, 9, 10, 11, 12]) C dL_law_764 hM gL_law_X7_who rfl sg_X7_who 7 rfl rfl rfl (Nat.le_of_ble_eq_true rfl) ⟨⟨rfl, rfl⟩, Nat.le_of_ble_eq_true rfl, Nat.le_of_ble_eq_true rfl⟩ hcs hps cs sl ⟨rfl, rfl⟩ 767 rfl (fun v w1 hq => ?_)
  obtain ⟨r2, N_h', L_h', Z_h', R_h', rfl, rfl, hm⟩ := hq
  have hpj2 := lw_join (G := (gW cI cJ cZ q S_n T_n U_n S_r' T_r' U_r' G_s P_p I_i S_iw T_iw U_iw G_is I_j S_jw T_jw U_jw G_js R_w' OC_o O_o B_h P_h N_h' L_h' E_h V_h G_h D_h O_h Z_h' R_h' I_h)) [0, 1, 2, 3, 4, 5, 6, 7, 8, 9, 10, 11, 12] [13] (by decide)
  rw [lapp_agr (G := (gW cI cJ cZ q S_n T_n U_n S_r' T_r' U_r' G_s P_p I_i S_iw T_iw U_iw G_is I_j S_jw T_jw U_jw G_js R_w' OC_o O_o B_h P_h N_h' L_h' E_h V_h G_h D_h O_h Z_h' R_h' I_h)) (G' := (gW cI cJ cZ q S_n T_n U_n S_r' T_r' U_r' G_s P_p I_i S_iw T_iw U_iw G_is I_j S_jw T_jw U_jw G_js R_w' OC_o O_o B_h P_h N_h L_h E_h V_h G_h D_h O_h Z_h R_h I_h)) [0, 1, 2, 3, 4, 5, 6, 7, 8, 9, 10, 11, 12] ⟨rfl, rfl, rfl, rfl, rfl, rfl, rfl, rfl, rfl, rfl, rfl, rfl, rfl, trivial⟩, lapp_1 (gW cI cJ cZ q S_n T_n U_n S_r' T_r' U_r' G_s P_p I_i S_iw T_iw U_iw G_is I_j S_jw T_jw U_jw G_js R_w' OC_o O_o B_h P_h N_h' L_h' E_h V_h G_h D_h O_h Z_h' R_h' I_h) 13, gW_13] at hpj2
  refine k_permP (ws' := gall (gW cI cJ cZ q S_n T_n U_n S_r' T_r' U_r' G_s P_p I_i S_iw T_iw U_iw G_is I_j S_jw T_jw U_jw G_js R_w' OC_o O_o B_h P_h N_h' L_h' E_h V_h G_h D_h O_h Z_h' R_h' I_h)) C hpj2 ?_
  refine k_st (K := K) [.int (iI r2), .int (iI r)] _ rfl rfl ?_
  obtain ⟨hm, hN'⟩ := hm
  obtain rfl := VWho_one hc hm
  exact k_icmp_same C dL_law_767 961 (by decide) (nx _ ⟨S_n, T_n, U_n, S_r', T_r', U_r', G_s, P_p, I_i, S_iw, T_iw, U_iw, G_is, I_j, S_jw, T_jw, U_jw, G_js, R_w', OC_o, O_o, B_h, P_h, N_h', L_h', E_h, V_h, G_h, D_h, O_h, Z_h', R_h', I_h, List.Perm.refl _, hI, hZ, hS, hT, hG, hP, hN', hi, hj⟩)
