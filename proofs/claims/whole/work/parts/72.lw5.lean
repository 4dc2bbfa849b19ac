/-! the law: a step for each call (4) -/
set_option maxHeartbeats 4000000 in
set_option maxRecDepth 20000 in
theorem lst_look {D : va_G} {A : Nat → Prop} {l : Launch} {K : KT} {cI cJ cZ : ClassId} {q : Nat → Nat → Nat} {b cs sl : Nat} {f : Int → Int} {Ln i : Int} {ws : va_W} (C : KC cL_law RL wsL_law room_1 4 D (kT cI cJ cZ) A l false (fun _ _ => False) 0 0 K) (sld : ∀ {pc n : Nat} {lv : List (Nat × Value)} {st : List Value} {ws : va_W} {i : Int}, decode cL_law pc = .ok (.iaload, 1) → 0 ≤ i → i < Ln → pc + 1 = n → K cs sl n lv (.int (iI (f i)) :: st) ws → K cs sl pc lv (.int (iI i) :: .ref b :: st) ws) (hf : ∀ k, rI (f k)) (hcs : cs + 0 ≤ room_1.cells ∧ sl + 0 ≤ room_1.slots) (i0 : 0 ≤ i) (i1 : i + 4 < Ln) (hR : LRel cI cJ cZ q ws) (nx : ∀ ws', LRel cI cJ cZ q ws' → K cs sl 961 [(3, .int (iI i)), (2, .ref (q 13 0)), (1, .ref (q 0 0)), (0, .ref b)] [] ws') : K cs sl 772 [(3, .int (iI i)), (2, .ref (q 13 0)), (1, .ref (q 0 0)), (0, .ref b)] [] ws := by
  obtain ⟨S_n, T_n, U_n, S_r, T_r, U_r, G_s, P_p, I_i, S_iw, T_iw, U_iw, G_is, I_j, S_jw, T_jw, U_jw, G_js, R_w, OC_o, O_o, B_h, P_h, N_h, L_h, E_h, V_h, G_h, D_h, O_h, Z_h, R_h, I_h, hp, hI, hZ, hS, hT, hG, hP, hN, hi, hj⟩ := hR
  refine k_aload_n C dL_law_772 2 rfl rfl 773 rfl ?_
  refine k_aload_n C dL_law_773 3 rfl rfl 774 rfl ?_
  refine k_iload_n C dL_law_774 0 rfl rfl 775 rfl ?_
  refine k_iconst C dL_law_775 776 rfl ?_
  refine k_iadd C dL_law_776 777 rfl ?_
  refine sld dL_law_777 (by omega) (by omega) rfl ?_
  refine k_aload_n C dL_law_778 3 rfl rfl 779 rfl ?_
  refine k_iload_n C dL_law_779 0 rfl rfl 780 rfl ?_
  refine k_iconst C dL_law_780 781 rfl ?_
  refine k_iadd C dL_law_781 782 rfl ?_
  refine sld dL_law_782 (by omega) (by omega) rfl ?_
  have hM := c_X6_look (l := l) (D := D) (cI := cI) (cJ := cJ) (cZ := cZ) (q 0) (q 1) (q 2) (q 3) (q 4) (q 5) (q 8) (q 11) (q 12) S_n T_n U_n S_r T_r U_r G_s R_w (f (i + 1)) (f (i + 2)) (fun (r : Int) (S_r' : gWS) (T_r' : gWT) (U_r' : gWU) (R_w' : gRR) => r = vLook B_h G_h P_h (f (i + 1)) (f (i + 2))) (s_look hI hS hT hG (hf _) (hf _) (fun _ _ _ _ => rfl))
  have hps := lw_split (G := (gW cI cJ cZ q S_n T_n U_n S_r T_r U_r G_s P_p I_i S_iw T_iw U_iw G_is I_j S_jw T_jw U_jw G_js R_w OC_o O_o B_h P_h N_h L_h E_h V_h G_h D_h O_h Z_h R_h I_h)) [0, 1, 2, 3, 11] [4, 5, 6, 7, 8, 9, 10, 12, 13] hp (by decide)
  rw [lapp_5 (gW cI cJ cZ q S_n T_n U_n S_r T_r U_r G_s P_p I_i S_iw T_iw U_iw G_is I_j S_jw T_jw U_jw G_js R_w OC_o O_o B_h P_h N_h L_h E_h V_h G_h D_h O_h Z_h R_h I_h) 0 1 2 3 11, gW_0, gW_1, gW_2, gW_3, gW_11] at hps
  refine k_callP (wr := lapp (gW cI cJ cZ q S_n T_n U_n S_r T_r U_r G_s P_p I_i S_iw T_iw U_iw G_is I_j S_jw T_jw U_jw G_js R_w OC_o O_o B_h P_h N_h L_h E_h V_h G_h D_h O_h Z_h R_h I_h) [4, 5, 6, 7, 8, 9, 10, 12, 13]) C dL_law_783 hM gL_law_X6_look rfl sg_X6_look 6 rfl rfl rfl (Nat.le_of_ble_eq_true rfl) ⟨⟨rfl, rfl⟩, Nat.le_of_ble_eq_true rfl, Nat.le_of_ble_eq_true rfl⟩ hcs hps cs sl ⟨rfl, rfl⟩ 786 rfl (fun v w1 hq => ?_)
  obtain ⟨r, S_r', T_r', U_r', R_w', rfl, rfl, hc⟩ := hq
  have hpj := lw_join (G := (gW cI cJ cZ q S_n T_n U_n S_r' T_r' U_r' G_s P_p I_i S_iw T_iw U_iw G_is I_j S_jw T_jw U_jw G_js R_w' OC_o O_o B_h P_h N_h L_h E_h V_h G_h D_h O_h Z_h R_h I_h)) [4, 5, 6, 7, 8, 9, 10, 12, 13] [0, 1, 2, 3, 11] (by decide)
  rw [lapp_agr (G := (gW cI cJ cZ q S_n T_n U_n S_r' T_r' U_r' G_s P_p I_i S_iw T_iw U_iw G_is I_j S_jw T_jw U_jw G_js R_w' OC_o O_o B_h P_h N_h L_h E_h V_h G_h D_h O_h Z_h R_h I_h)) (G' := (gW cI cJ cZ q S_n T_n U_n S_r T_r U_r G_s P_p I_i S_iw T_iw U_iw G_is I_j S_jw T_jw U_jw G_js R_w OC_o O_o B_h P_h N_h L_h E_h V_h G_h D_h O_h Z_h R_h I_h)) [4, 5, 6, 7, 8, 9, 10, 12, 13] ⟨rfl, rfl, rfl, rfl, rfl, rfl, rfl, rfl, rfl, trivial⟩, lapp_5 (gW cI cJ cZ q S_n T_n U_n S_r' T_r' U_r' G_s P_p I_i S_iw T_iw U_iw G_is I_j S_jw T_jw U_jw G_js R_w' OC_o O_o B_h P_h N_h L_h E_h V_h G_h D_h O_h Z_h R_h I_h) 0 1 2 3 11, gW_0, gW_1, gW_2, gW_3, gW_11] at hpj
  refine k_permP (ws' := gall (gW cI cJ cZ q S_n T_n U_n S_r' T_r' U_r' G_s P_p I_i S_iw T_iw U_iw G_is I_j S_jw T_jw U_jw G_js R_w' OC_o O_o B_h P_h N_h L_h E_h V_h G_h D_h O_h Z_h R_h I_h)) C hpj ?_
  refine k_st (K := K) [.int (iI r)] _ rfl rfl ?_
  refine k_aload_n C dL_law_786 1 rfl rfl 787 rfl ?_
  refine k_aload_n C dL_law_787 3 rfl rfl 788 rfl ?_
  refine k_iload_n C dL_law_788 0 rfl rfl 789 rfl ?_
  refine k_iconst C dL_law_789 790 rfl ?_
  refine k_iadd C dL_law_790 791 rfl ?_
  refine sld dL_law_791 (by omega) (by omega) rfl ?_
  refine k_aload_n C dL_law_792 3 rfl rfl 793 rfl ?_
  refine k_iload_n C dL_law_793 0 rfl rfl 794 rfl ?_
  refine k_iconst C dL_law_794 795 rfl ?_
  refine k_iadd C dL_law_795 796 rfl ?_
  refine sld dL_law_796 (by omega) (by omega) rfl ?_
  have hM := c_X7_look (l := l) (D := D) (cI := cI) (cJ := cJ) (cZ := cZ) (q 13) B_h P_h N_h L_h E_h V_h G_h D_h O_h Z_h R_h I_h (f (i + 1)) (f (i + 2)) (fun (r : Int) (N_h' : gMN) (L_h' : gML) (Z_h' : gMZ) (R_h' : gMR) => r = vLook B_h G_h P_h (f (i + 1)) (f (i + 2)) ∧ Scr N_h' L_h') (s_X7_look hI hN hG (hf _) (hf _) (fun N' L' _ _ h => ⟨rfl, h⟩))
  have hps := lw_split (G := (gW cI cJ cZ q S_n T_n U_n S_r' T_r' U_r' G_s P_p I_i S_iw T_iw U_iw G_is I_j S_jw T_jw U_jw G_js R_w' OC_o O_o B_h P_h N_h L_h E_h V_h G_h D_h O_h Z_h R_h I_h)) [13] [0, 1, 2, 3, 4, 5, 6, 7, 8, 9, 10, 11, 12] (List.Perm.refl _) (by decide)
  rw [lapp_1 (gW cI cJ cZ q S_n T_n U_n S_r' T_r' U_r' G_s P_p I_i S_iw T_iw U_iw G_is I_j S_jw T_jw U_jw G_js R_w' OC_o O_o B_h P_h N_h L_h E_h V_h G_h D_h O_h Z_h R_h I_h) 13, gW_13] at hps
  refine k_callP (wr := lapp (gW cI cJ cZ q S_n T_n U_n S_r' T_r' U_r' G_s P_p I_i S_iw T_iw U_iw G_is I_j S_jw T_jw U_jw G_js R_w' OC_o O_o B_h P_h N_h L_h E_h V_h G_h D_h O_h Z_h R_h I_h) [0, 1, 2, 3, 4, 5, 6, 7, 8, 9, 10, 11, 12]) C dL_law_797 hM gL_law_X7_look rfl sg_X7_look 7 rfl rfl rfl (Nat.le_of_ble_eq_true rfl) ⟨⟨rfl, rfl⟩, Nat.le_of_ble_eq_true rfl, Nat.le_of_ble_eq_true rfl⟩ hcs hps cs sl ⟨rfl, rfl⟩ 800 rfl (fun v w1 hq => ?_)
  obtain ⟨r2, N_h', L_h', Z_h', R_h', rfl, rfl, hm⟩ := hq
  have hpj2 := lw_join (G := (gW cI cJ cZ q S_n T_n U_n S_r' T_r' U_r' G_s P_p I_i S_iw T_iw U_iw G_is I_j S_jw T_jw U_jw G_js R_w' OC_o O_o B_h P_h N_h' L_h' E_h V_h G_h D_h O_h Z_h' R_h' I_h)) [0, 1, 2, 3, 4, 5, 6, 7, 8, 9, 10, 11, 12] [13] (by decide)
  rw [lapp_agr (G := (gW cI cJ cZ q S_n T_n U_n S_r' T_r' U_r' G_s P_p I_i S_iw T_iw U_iw G_is I_j S_jw T_jw U_jw G_js R_w' OC_o O_o B_h P_h N_h' L_h' E_h V_h G_h D_h O_h Z_h' R_h' I_h)) (G' := (gW cI cJ cZ q S_n T_n U_n S_r' T_r' U_r' G_s P_p I_i S_iw T_iw U_iw G_is I_j S_jw T_jw U_jw G_js R_w' OC_o O_o B_h P_h N_h L_h E_h V_h G_h D_h O_h Z_h R_h I_h)) [0, 1, 2, 3, 4, 5, 6, 7, 8, 9, 10, 11, 12] ⟨rfl, rfl, rfl, rfl, rfl, rfl, rfl, rfl, rfl, rfl, rfl, rfl, rfl, trivial⟩, lapp_1 (gW cI cJ cZ q S_n T_n U_n S_r' T_r' U_r' G_s P_p I_i S_iw T_iw U_iw G_is I_j S_jw T_jw U_jw G_js R_w' OC_o O_o B_h P_h N_h' L_h' E_h V_h G_h D_h O_h Z_h' R_h' I_h) 13, gW_13] at hpj2
  refine k_permP (ws' := gall (gW cI cJ cZ q S_n T_n U_n S_r' T_r' U_r' G_s P_p I_i S_iw T_iw U_iw G_is I_j S_jw T_jw U_jw G_js R_w' OC_o O_o B_h P_h N_h' L_h' E_h V_h G_h D_h O_h Z_h' R_h' I_h)) C hpj2 ?_
  refine k_st (K := K) [.int (iI r2), .int (iI r)] _ rfl rfl ?_
  subst hc
  obtain ⟨rfl, hN'⟩ := hm
  exact k_icmp_same C dL_law_800 961 (by decide) (nx _ ⟨S_n, T_n, U_n, S_r', T_r', U_r', G_s, P_p, I_i, S_iw, T_iw, U_iw, G_is, I_j, S_jw, T_jw, U_jw, G_js, R_w', OC_o, O_o, B_h, P_h, N_h', L_h', E_h, V_h, G_h, D_h, O_h, Z_h', R_h', I_h, List.Perm.refl _, hI, hZ, hS, hT, hG, hP, hN', hi, hj⟩)
set_option maxHeartbeats 4000000 in
set_option maxRecDepth 20000 in
theorem lst_weak {D : va_G} {A : Nat → Prop} {l : Launch} {K : KT} {cI cJ cZ : ClassId} {q : Nat → Nat → Nat} {b cs sl : Nat} {f : Int → Int} {Ln i : Int} {ws : va_W} (C : KC cL_law RL wsL_law room_1 4 D (kT cI cJ cZ) A l false (fun _ _ => False) 0 0 K) (sld : ∀ {pc n : Nat} {lv : List (Nat × Value)} {st : List Value} {ws : va_W} {i : Int}, decode cL_law pc = .ok (.iaload, 1) → 0 ≤ i → i < Ln → pc + 1 = n → K cs sl n lv (.int (iI (f i)) :: st) ws → K cs sl pc lv (.int (iI i) :: .ref b :: st) ws) (hf : ∀ k, rI (f k)) (hcs : cs + 0 ≤ room_1.cells ∧ sl + 0 ≤ room_1.slots) (i0 : 0 ≤ i) (i1 : i + 4 < Ln) (hR : LRel cI cJ cZ q ws) (nx : ∀ ws', LRel cI cJ cZ q ws' → K cs sl 961 [(3, .int (iI i)), (2, .ref (q 13 0)), (1, .ref (q 0 0)), (0, .ref b)] [] ws') : K cs sl 805 [(3, .int (iI i)), (2, .ref (q 13 0)), (1, .ref (q 0 0)), (0, .ref b)] [] ws := by
  obtain ⟨S_n, T_n, U_n, S_r, T_r, U_r, G_s, P_p, I_i, S_iw, T_iw, U_iw, G_is, I_j, S_jw, T_jw, U_jw, G_js, R_w, OC_o, O_o, B_h, P_h, N_h, L_h, E_h, V_h, G_h, D_h, O_h, Z_h, R_h, I_h, hp, hI, hZ, hS, hT, hG, hP, hN, hi, hj⟩ := hR
  refine k_aload_n C dL_law_805 2 rfl rfl 806 rfl ?_
  refine k_aload_n C dL_law_806 3 rfl rfl 807 rfl ?_
  refine k_iload_n C dL_law_807 0 rfl rfl 808 rfl ?_
  refine k_iconst C dL_law_808 809 rfl ?_
  refine k_iadd C dL_law_809 810 rfl ?_
  refine sld dL_law_810 (by omega) (by omega) rfl ?_
  refine k_aload_n C dL_law_811 3 rfl rfl 812 rfl ?_
  refine k_iload_n C dL_law_812 0 rfl rfl 813 rfl ?_
  refine k_iconst C dL_law_813 814 rfl ?_
  refine k_iadd C dL_law_814 815 rfl ?_
  refine sld dL_law_815 (by omega) (by omega) rfl ?_
  refine k_aload_n C dL_law_816 3 rfl rfl 817 rfl ?_
  refine k_iload_n C dL_law_817 0 rfl rfl 818 rfl ?_
  refine k_iconst C dL_law_818 819 rfl ?_
  refine k_iadd C dL_law_819 820 rfl ?_
  refine sld dL_law_820 (by omega) (by omega) rfl ?_
  have hM := c_X6_weak (l := l) (D := D) (cI := cI) (cJ := cJ) (cZ := cZ) (q 0) (q 1) (q 2) (q 3) (q 4) (q 5) (q 8) (q 11) (q 12) S_n T_n U_n (f (i + 1)) (f (i + 2)) (f (i + 3)) (fun (r : Int) (U_n' : gWU) => r = vWeak B_h P_h (f (i + 1)) (f (i + 2)) (f (i + 3))) (s_weak hI hS hT  (hf _) (hf _) (hf _) (fun _ => rfl))
  have hps := lw_split (G := (gW cI cJ cZ q S_n T_n U_n S_r T_r U_r G_s P_p I_i S_iw T_iw U_iw G_is I_j S_jw T_jw U_jw G_js R_w OC_o O_o B_h P_h N_h L_h E_h V_h G_h D_h O_h Z_h R_h I_h)) [0, 1] [2, 3, 4, 5, 6, 7, 8, 9, 10, 11, 12, 13] hp (by decide)
  rw [lapp_2 (gW cI cJ cZ q S_n T_n U_n S_r T_r U_r G_s P_p I_i S_iw T_iw U_iw G_is I_j S_jw T_jw U_jw G_js R_w OC_o O_o B_h P_h N_h L_h E_h V_h G_h D_h O_h Z_h R_h I_h) 0 1, gW_0, gW_1] at hps
  refine k_callP (wr := lapp (gW cI cJ cZ q S_n T_n U_n S_r T_r U_r G_s P_p I_i S_iw T_iw U_iw G_is I_j S_jw T_jw U_jw G_js R_w OC_o O_o B_h P_h N_h L_h E_h V_h G_h D_h O_h Z_h R_h I_h) [2, 3, 4, 5, 6, 7, 8, 9, 10, 11, 12, 13]) C dL_law_821 hM gL_law_X6_weak rfl sg_X6_weak 6 rfl rfl rfl (Nat.le_of_ble_eq_true rfl) ⟨⟨rfl, rfl⟩, Nat.le_of_ble_eq_true rfl, Nat.le_of_ble_eq_true rfl⟩ hcs hps cs sl ⟨rfl, rfl⟩ 824 rfl (fun v w1 hq => ?_)
  obtain ⟨r, U_n', rfl, rfl, hc⟩ := hq
  have hpj := lw_join (G := (gW cI cJ cZ q S_n T_n U_n' S_r T_r U_r G_s P_p I_i S_iw T_iw U_iw G_is I_j S_jw T_jw U_jw G_js R_w OC_o O_o B_h P_h N_h L_h E_h V_h G_h D_h O_h Z_h R_h I_h)) [2, 3, 4, 5, 6, 7, 8, 9, 10, 11, 12, 13] [0, 1] (by decide)
  rw [lapp_agr (G := (gW cI cJ cZ q S_n T_n U_n' S_r T_r U_r G_s P_p I_i S_iw T_iw U_iw G_is I_j S_jw T_jw U_jw G_js R_w OC_o O_o B_h P_h N_h L_h E_h V_h G_h D_h O_h Z_h R_h I_h)) (G' := (gW cI cJ cZ q S_n T_n U_n S_r T_r U_r G_s P_p I_i S_iw T_iw U_iw G_is I_j S_jw T_jw U_jw G_js R_w OC_o O_o B_h P_h N_h L_h E_h V_h G_h D_h O_h Z_h R_h I_h)) [2, 3, 4, 5, 6, 7, 8, 9, 10, 11, 12, 13] ⟨rfl, rfl, rfl, rfl, rfl, rfl, rfl, rfl, rfl, rfl, rfl, rfl, trivial⟩, lapp_2 (gW cI cJ cZ q S_n T_n U_n' S_r T_r U_r G_s P_p I_i S_iw T_iw U_iw G_is I_j S_jw T_jw U_jw G_js R_w OC_o O_o B_h P_h N_h L_h E_h V_h G_h D_h O_h Z_h R_h I_h) 0 1, gW_0, gW_1] at hpj
  refine k_permP (ws' := gall (gW cI cJ cZ q S_n T_n U_n' S_r T_r U_r G_s P_p I_i S_iw T_iw U_iw G_is I_j S_jw T_jw U_jw G_js R_w OC_o O_o B_h P_h N_h L_h E_h V_h G_h D_h O_h Z_h R_h I_h)) C hpj ?_
  refine k_st (K := K) [.long (lL r)] _ rfl rfl ?_
  refine k_aload_n C dL_law_824 1 rfl rfl 825 rfl ?_
  refine k_aload_n C dL_law_825 3 rfl rfl 826 rfl ?_
  refine k_iload_n C dL_law_826 0 rfl rfl 827 rfl ?_
  refine k_iconst C dL_law_827 828 rfl ?_
  refine k_iadd C dL_law_828 829 rfl ?_
  refine sld dL_law_829 (by omega) (by omega) rfl ?_
  refine k_aload_n C dL_law_830 3 rfl rfl 831 rfl ?_
  refine k_iload_n C dL_law_831 0 rfl rfl 832 rfl ?_
  refine k_iconst C dL_law_832 833 rfl ?_
  refine k_iadd C dL_law_833 834 rfl ?_
  refine sld dL_law_834 (by omega) (by omega) rfl ?_
  refine k_aload_n C dL_law_835 3 rfl rfl 836 rfl ?_
  refine k_iload_n C dL_law_836 0 rfl rfl 837 rfl ?_
  refine k_iconst C dL_law_837 838 rfl ?_
  refine k_iadd C dL_law_838 839 rfl ?_
  refine sld dL_law_839 (by omega) (by omega) rfl ?_
  have hM := c_X7_weak (l := l) (D := D) (cI := cI) (cJ := cJ) (cZ := cZ) (q 13) B_h P_h N_h L_h E_h V_h G_h D_h O_h Z_h R_h I_h (f (i + 1)) (f (i + 2)) (f (i + 3)) (fun (r : Int) (N_h' : gMN) (L_h' : gML) => r = vWeak B_h P_h (f (i + 1)) (f (i + 2)) (f (i + 3)) ∧ Scr N_h' L_h') (s_X7_weak hI hN  (hf _) (hf _) (hf _) (fun N' L' h => ⟨rfl, h⟩))
  have hps := lw_split (G := (gW cI cJ cZ q S_n T_n U_n' S_r T_r U_r G_s P_p I_i S_iw T_iw U_iw G_is I_j S_jw T_jw U_jw G_js R_w OC_o O_o B_h P_h N_h L_h E_h V_h G_h D_h O_h Z_h R_h I_h)) [13] [0, 1, 2, 3, 4, 5, 6, 7, 8, 9, 10, 11, 12] (List.Perm.refl _) (by decide)
  rw [lapp_1 (gW cI cJ cZ q S_n T_n U_n' S_r T_r U_r G_s P_p I_i S_iw T_iw U_iw G_is I_j S_jw T_jw U_jw G_js R_w OC_o O_o B_h P_h N_h L_h E_h V_h G_h D_h O_h Z_h R_h I_h) 13, gW_13] at hps
  refine k_callP (wr := lapp (gW cI cJ cZ q S_n T_n U_n' S_r T_r U_r G_s P_p I_i S_iw T_iw U_iw G_is I_j S_jw T_jw U_jw G_js R_w OC_o O_o B_h P_h N_h L_h E_h V_h G_h D_h O_h Z_h R_h I_h) [0, 1, 2, 3, 4, 5, 6, 7, 8, 9, 10, 11, 12]) C dL_law_840 hM gL_law_X7_weak rfl sg_X7_weak 7 rfl rfl rfl (Nat.le_of_ble_eq_true rfl) ⟨⟨rfl, rfl⟩, Nat.le_of_ble_eq_true rfl, Nat.le_of_ble_eq_true rfl⟩ hcs hps cs sl ⟨rfl, rfl⟩ 843 rfl (fun v w1 hq => ?_)
  obtain ⟨r2, N_h', L_h', rfl, rfl, hm⟩ := hq
  have hpj2 := lw_join (G := (gW cI cJ cZ q S_n T_n U_n' S_r T_r U_r G_s P_p I_i S_iw T_iw U_iw G_is I_j S_jw T_jw U_jw G_js R_w OC_o O_o B_h P_h N_h' L_h' E_h V_h G_h D_h O_h Z_h R_h I_h)) [0, 1, 2, 3, 4, 5, 6, 7, 8, 9, 10, 11, 12] [13] (by decide)
  rw [lapp_agr (G := (gW cI cJ cZ q S_n T_n U_n' S_r T_r U_r G_s P_p I_i S_iw T_iw U_iw G_is I_j S_jw T_jw U_jw G_js R_w OC_o O_o B_h P_h N_h' L_h' E_h V_h G_h D_h O_h Z_h R_h I_h)) (G' := (gW cI cJ cZ q S_n T_n U_n' S_r T_r U_r G_s P_p I_i S_iw T_iw U_iw G_is I_j S_jw T_jw U_jw G_js R_w OC_o O_o B_h P_h N_h L_h E_h V_h G_h D_h O_h Z_h R_h I_h)) [0, 1, 2, 3, 4, 5, 6, 7, 8, 9, 10, 11, 12] ⟨rfl, rfl, rfl, rfl, rfl, rfl, rfl, rfl, rfl, rfl, rfl, rfl, rfl, trivial⟩, lapp_1 (gW cI cJ cZ q S_n T_n U_n' S_r T_r U_r G_s P_p I_i S_iw T_iw U_iw G_is I_j S_jw T_jw U_jw G_js R_w OC_o O_o B_h P_h N_h' L_h' E_h V_h G_h D_h O_h Z_h R_h I_h) 13, gW_13] at hpj2
  refine k_permP (ws' := gall (gW cI cJ cZ q S_n T_n U_n' S_r T_r U_r G_s P_p I_i S_iw T_iw U_iw G_is I_j S_jw T_jw U_jw G_js R_w OC_o O_o B_h P_h N_h' L_h' E_h V_h G_h D_h O_h Z_h R_h I_h)) C hpj2 ?_
  refine k_st (K := K) [.long (lL r2), .long (lL r)] _ rfl rfl ?_
  subst hc
  obtain ⟨rfl, hN'⟩ := hm
  refine k_lcmp_same C dL_law_843 844 rfl ?_
  exact k_if_eq C dL_law_844 rI_0 961 847 (by decide) rfl (fun _ => nx _ ⟨S_n, T_n, U_n', S_r, T_r, U_r, G_s, P_p, I_i, S_iw, T_iw, U_iw, G_is, I_j, S_jw, T_jw, U_jw, G_js, R_w, OC_o, O_o, B_h, P_h, N_h', L_h', E_h, V_h, G_h, D_h, O_h, Z_h, R_h, I_h, List.Perm.refl _, hI, hZ, hS, hT, hG, hP, hN', hi, hj⟩) (fun z => absurd rfl z)
set_option maxHeartbeats 4000000 in
set_option maxRecDepth 20000 in
theorem lst_year {D : va_G} {A : Nat → Prop} {l : Launch} {K : KT} {cI cJ cZ : ClassId} {q : Nat → Nat → Nat} {b cs sl : Nat} {f : Int → Int} {Ln i : Int} {ws : va_W} (C : KC cL_law RL wsL_law room_1 4 D (kT cI cJ cZ) A l false (fun _ _ => False) 0 0 K) (sld : ∀ {pc n : Nat} {lv : List (Nat × Value)} {st : List Value} {ws : va_W} {i : Int}, decode cL_law pc = .ok (.iaload, 1) → 0 ≤ i → i < Ln → pc + 1 = n → K cs sl n lv (.int (iI (f i)) :: st) ws → K cs sl pc lv (.int (iI i) :: .ref b :: st) ws) (hf : ∀ k, rI (f k)) (hcs : cs + 0 ≤ room_1.cells ∧ sl + 0 ≤ room_1.slots) (i0 : 0 ≤ i) (i1 : i + 4 < Ln) (hR : LRel cI cJ cZ q ws) (nx : ∀ ws', LRel cI cJ cZ q ws' → K cs sl 961 [(3, .int (iI i)), (2, .ref (q 13 0)), (1, .ref (q 0 0)), (0, .ref b)] [] ws') : K cs sl 849 [(3, .int (iI i)), (2, .ref (q 13 0)), (1, .ref (q 0 0)), (0, .ref b)] [] ws := by
  obtain ⟨S_n, T_n, U_n, S_r, T_r, U_r, G_s, P_p, I_i, S_iw, T_iw, U_iw, G_is, I_j, S_jw, T_jw, U_jw, G_js, R_w, OC_o, O_o, B_h, P_h, N_h, L_h, E_h, V_h, G_h, D_h, O_h, Z_h, R_h, I_h, hp, hI, hZ, hS, hT, hG, hP, hN, hi, hj⟩ := hR
  refine k_aload_n C dL_law_849 2 rfl rfl 850 rfl ?_
  refine k_aload_n C dL_law_850 3 rfl rfl 851 rfl ?_
  refine k_iload_n C dL_law_851 0 rfl rfl 852 rfl ?_
  refine k_iconst C dL_law_852 853 rfl ?_
  refine k_iadd C dL_law_853 854 rfl ?_
  refine sld dL_law_854 (by omega) (by omega) rfl ?_
  refine k_aload_n C dL_law_855 3 rfl rfl 856 rfl ?_
  refine k_iload_n C dL_law_856 0 rfl rfl 857 rfl ?_
  refine k_iconst C dL_law_857 858 rfl ?_
  refine k_iadd C dL_law_858 859 rfl ?_
  refine sld dL_law_859 (by omega) (by omega) rfl ?_
  refine k_aload_n C dL_law_860 3 rfl rfl 861 rfl ?_
  refine k_iload_n C dL_law_861 0 rfl rfl 862 rfl ?_
  refine k_iconst C dL_law_862 863 rfl ?_
  refine k_iadd C dL_law_863 864 rfl ?_
  refine sld dL_law_864 (by omega) (by omega) rfl ?_
  have hM := c_X6_year (l := l) (D := D) (cI := cI) (cJ := cJ) (cZ := cZ) (q 0) (q 1) (q 2) (q 3) (q 4) (q 5) (q 8) (q 11) (q 12) S_n T_n U_n S_r T_r U_r (f (i + 1)) (f (i + 2)) (f (i + 3)) (fun (r : Int) (S_r' : gWS) (T_r' : gWT) (U_r' : gWU) => r = vYear B_h P_h (f (i + 1)) (f (i + 2)) (f (i + 3))) (s_year hI hS hT  (hf _) (hf _) (hf _) (fun _ _ _ => rfl))
  have hps := lw_split (G := (gW cI cJ cZ q S_n T_n U_n S_r T_r U_r G_s P_p I_i S_iw T_iw U_iw G_is I_j S_jw T_jw U_jw G_js R_w OC_o O_o B_h P_h N_h L_h E_h V_h G_h D_h O_h Z_h R_h I_h)) [0, 1, 2] [3, 4, 5, 6, 7, 8, 9, 10, 11, 12, 13] hp (by decide)
  rw [lapp_3 (gW cI cJ cZ q S_n T_n U_n S_r T_r U_r G_s P_p I_i S_iw T_iw U_iw G_is I_j S_jw T_jw U_jw G_js R_w OC_o O_o B_h P_h N_h L_h E_h V_h G_h D_h O_h Z_h R_h I_h) 0 1 2, gW_0, gW_1, gW_2] at hps
  refine k_callP (wr := lapp (gW cI cJ cZ q S_n T_n U_n S_r T_r U_r G_s P_p I_i S_iw T_iw U_iw G_is I_j S_jw T_jw U_jw G_js R_w OC_o O_o B_h P_h N_h L_h E_h V_h G_h D_h O_h Z_h R_h I_h) [3, 4, 5, 6, 7, 8, 9, 10, 11, 12, 13]) C dL_law_865 hM gL_law_X6_year rfl sg_X6_year 6 rfl rfl rfl (Nat.le_of_ble_eq_true rfl) ⟨⟨rfl, rfl⟩, Nat.le_of_ble_eq_true rfl, Nat.le_of_ble_eq_true rfl⟩ hcs hps cs sl ⟨rfl, rfl⟩ 868 rfl (fun v w1 hq => ?_)
  obtain ⟨r, S_r', T_r', U_r', rfl, rfl, hc⟩ := hq
  have hpj := lw_join (G := (gW cI cJ cZ q S_n T_n U_n S_r' T_r' U_r' G_s P_p I_i S_iw T_iw U_iw G_is I_j S_jw T_jw U_jw G_js R_w OC_o O_o B_h P_h N_h L_h E_h V_h G_h D_h O_h Z_h R_h I_h)) [3, 4, 5, 6, 7, 8, 9, 10, 11, 12, 13] [0, 1, 2] (by decide)
  rw [lapp_agr (G := (gW cI cJ cZ q S_n T_n U_n S_r' T_r' U_r' G_s P_p I_i S_iw T_iw U_iw G_is I_j S_jw T_jw U_jw G_js R_w OC_o O_o B_h P_h N_h L_h E_h V_h G_h D_h O_h Z_h R_h I_h)) (G' := (gW cI cJ cZ q S_n T_n U_n S_r T_r U_r G_s P_p I_i S_iw T_iw U_iw G_is I_j S_jw T_jw U_jw G_js R_w OC_o O_o B_h P_h N_h L_h E_h V_h G_h D_h O_h Z_h R_h I_h)) [3, 4, 5, 6, 7, 8, 9, 10, 11, 12, 13] ⟨rfl, rfl, rfl, rfl, rfl, rfl, rfl, rfl, rfl, rfl, rfl, trivial⟩, lapp_3 (gW cI cJ cZ q S_n T_n U_n S_r' T_r' U_r' G_s P_p I_i S_iw T_iw U_iw G_is I_j S_jw T_jw U_jw G_js R_w OC_o O_o B_h P_h N_h L_h E_h V_h G_h D_h O_h Z_h R_h I_h) 0 1 2, gW_0, gW_1, gW_2] at hpj
  refine k_permP (ws' := gall (gW cI cJ cZ q S_n T_n U_n S_r' T_r' U_r' G_s P_p I_i S_iw T_iw U_iw G_is I_j S_jw T_jw U_jw G_js R_w OC_o O_o B_h P_h N_h L_h E_h V_h G_h D_h O_h Z_h R_h I_h)) C hpj ?_
  refine k_st (K := K) [.int (iI r)] _ rfl rfl ?_
  refine k_aload_n C dL_law_868 1 rfl rfl 869 rfl ?_
  refine k_aload_n C dL_law_869 3 rfl rfl 870 rfl ?_
  refine k_iload_n C dL_law_870 0 rfl rfl 871 rfl ?_
  refine k_iconst C dL_law_871 872 rfl ?_
  refine k_iadd C dL_law_872 873 rfl ?_
  refine sld dL_law_873 (by omega) (by omega) rfl ?_
  refine k_aload_n C dL_law_874 3 rfl rfl 875 rfl ?_
  refine k_iload_n C dL_law_875 0 rfl rfl 876 rfl ?_
  refine k_iconst C dL_law_876 877 rfl ?_
  refine k_iadd C dL_law_877 878 rfl ?_
  refine sld dL_law_878 (by omega) (by omega) rfl ?_
  refine k_aload_n C dL_law_879 3 rfl rfl 880 rfl ?_
  refine k_iload_n C dL_law_880 0 rfl rfl 881 rfl ?_
  refine k_iconst C dL_law_881 882 rfl ?_
  refine k_iadd C dL_law_882 883 rfl ?_
  refine sld dL_law_883 (by omega) (by omega) rfl ?_
  have hM := c_X7_year (l := l) (D := D) (cI := cI) (cJ := cJ) (cZ := cZ) (q 13) B_h P_h N_h L_h E_h V_h G_h D_h O_h Z_h R_h I_h (f (i + 1)) (f (i + 2)) (f (i + 3)) (fun (r : Int) (N_h' : gMN) (L_h' : gML) => r = vYear B_h P_h (f (i + 1)) (f (i + 2)) (f (i + 3)) ∧ Scr N_h' L_h') (s_X7_year hI hN  (hf _) (hf _) (hf _) (fun N' L' h => ⟨rfl, h⟩))
  have hps := lw_split (G := (gW cI cJ cZ q S_n T_n U_n S_r' T_r' U_r' G_s P_p I_i S_iw T_iw U_iw G_is I_j S_jw T_jw U_jw G_js R_w OC_o O_o B_h P_h N_h L_h E_h V_h G_h D_h O_h Z_h R_h I_h)) [13] [0, 1, 2, 3, 4, 5, 6, 7, 8, 9, 10, 11, 12] (List.Perm.refl _) (by decide)
  rw [lapp_1 (gW cI cJ cZ q S_n T_n U_n S_r' T_r' U_r' G_s P_p I_i S_iw T_iw U_iw G_is I_j S_jw T_jw U_jw G_js R_w OC_o O_o B_h P_h N_h L_h E_h V_h G_h D_h O_h Z_h R_h I_h) 13, gW_13] at hps
  refine k_callP (wr := lapp (gW cI cJ cZ q S_n T_n U_n S_r' T_r' U_r' G_s P_p I_i S_iw T_iw U_iw G_is I_j S_jw T_jw U_jw G_js R_w OC_o O_o B_h P_h N_h L_h E_h V_h G_h D_h O_h Z_h R_h I_h) [0, 1, 2, 3, 4, 5, 6, 7, 8, 9, 10, 11, 12]) C dL_law_884 hM gL_law_X7_year rfl sg_X7_year 7 rfl rfl rfl (Nat.le_of_ble_eq_true rfl) ⟨⟨rfl, rfl⟩, Nat.le_of_ble_eq_true rfl, Nat.le_of_ble_eq_true rfl⟩ hcs hps cs sl ⟨rfl, rfl⟩ 887 rfl (fun v w1 hq => ?_)
  obtain ⟨r2, N_h', L_h', rfl, rfl, hm⟩ := hq
  have hpj2 := lw_join (G := (gW cI cJ cZ q S_n T_n U_n S_r' T_r' U_r' G_s P_p I_i S_iw T_iw U_iw G_is I_j S_jw T_jw U_jw G_js R_w OC_o O_o B_h P_h N_h' L_h' E_h V_h G_h D_h O_h Z_h R_h I_h)) [0, 1, 2, 3, 4, 5, 6, 7, 8, 9, 10, 11, 12] [13] (by decide)
  rw [lapp_agr (G := (gW cI cJ cZ q S_n T_n U_n S_r' T_r' U_r' G_s P_p I_i S_iw T_iw U_iw G_is I_j S_jw T_jw U_jw G_js R_w OC_o O_o B_h P_h N_h' L_h' E_h V_h G_h D_h O_h Z_h R_h I_h)) (G' := (gW cI cJ cZ q S_n T_n U_n S_r' T_r' U_r' G_s P_p I_i S_iw T_iw U_iw G_is I_j S_jw T_jw U_jw G_js R_w OC_o O_o B_h P_h N_h L_h E_h V_h G_h D_h O_h Z_h R_h I_h)) [0, 1, 2, 3, 4, 5, 6, 7, 8, 9, 10, 11, 12] ⟨rfl, rfl, rfl, rfl, rfl, rfl, rfl, rfl, rfl, rfl, rfl, rfl, rfl, trivial⟩, lapp_1 (gW cI cJ cZ q S_n T_n U_n S_r' T_r' U_r' G_s P_p I_i S_iw T_iw U_iw G_is I_j S_jw T_jw U_jw G_js R_w OC_o O_o B_h P_h N_h' L_h' E_h V_h G_h D_h O_h Z_h R_h I_h) 13, gW_13] at hpj2
  refine k_permP (ws' := gall (gW cI cJ cZ q S_n T_n U_n S_r' T_r' U_r' G_s P_p I_i S_iw T_iw U_iw G_is I_j S_jw T_jw U_jw G_js R_w OC_o O_o B_h P_h N_h' L_h' E_h V_h G_h D_h O_h Z_h R_h I_h)) C hpj2 ?_
  refine k_st (K := K) [.int (iI r2), .int (iI r)] _ rfl rfl ?_
  subst hc
  obtain ⟨rfl, hN'⟩ := hm
  exact k_icmp_same C dL_law_887 961 (by decide) (nx _ ⟨S_n, T_n, U_n, S_r', T_r', U_r', G_s, P_p, I_i, S_iw, T_iw, U_iw, G_is, I_j, S_jw, T_jw, U_jw, G_js, R_w, OC_o, O_o, B_h, P_h, N_h', L_h', E_h, V_h, G_h, D_h, O_h, Z_h, R_h, I_h, List.Perm.refl _, hI, hZ, hS, hT, hG, hP, hN', hi, hj⟩)
set_option maxHeartbeats 4000000 in
set_option maxRecDepth 20000 in
theorem lst_image {D : va_G} {A : Nat → Prop} {l : Launch} {K : KT} {cI cJ cZ : ClassId} {q : Nat → Nat → Nat} {b cs sl : Nat} {f : Int → Int} {Ln i : Int} {ws : va_W} (C : KC cL_law RL wsL_law room_1 4 D (kT cI cJ cZ) A l false (fun _ _ => False) 0 0 K) (sld : ∀ {pc n : Nat} {lv : List (Nat × Value)} {st : List Value} {ws : va_W} {i : Int}, decode cL_law pc = .ok (.iaload, 1) → 0 ≤ i → i < Ln → pc + 1 = n → K cs sl n lv (.int (iI (f i)) :: st) ws → K cs sl pc lv (.int (iI i) :: .ref b :: st) ws) (hf : ∀ k, rI (f k)) (hcs : cs + 0 ≤ room_1.cells ∧ sl + 0 ≤ room_1.slots) (i0 : 0 ≤ i) (i1 : i + 4 < Ln) (hR : LRel cI cJ cZ q ws) (nx : ∀ ws', LRel cI cJ cZ q ws' → K cs sl 961 [(3, .int (iI i)), (2, .ref (q 13 0)), (1, .ref (q 0 0)), (0, .ref b)] [] ws') : K cs sl 892 [(3, .int (iI i)), (2, .ref (q 13 0)), (1, .ref (q 0 0)), (0, .ref b)] [] ws := by
  obtain ⟨S_n, T_n, U_n, S_r, T_r, U_r, G_s, P_p, I_i, S_iw, T_iw, U_iw, G_is, I_j, S_jw, T_jw, U_jw, G_js, R_w, OC_o, O_o, B_h, P_h, N_h, L_h, E_h, V_h, G_h, D_h, O_h, Z_h, R_h, I_h, hp, hI, hZ, hS, hT, hG, hP, hN, hi, hj⟩ := hR
  refine k_aload_n C dL_law_892 2 rfl rfl 893 rfl ?_
  refine k_aload_n C dL_law_893 3 rfl rfl 894 rfl ?_
  refine k_iload_n C dL_law_894 0 rfl rfl 895 rfl ?_
  refine k_iconst C dL_law_895 896 rfl ?_
  refine k_iadd C dL_law_896 897 rfl ?_
  refine sld dL_law_897 (by omega) (by omega) rfl ?_
  have hM := c_X6_image (l := l) (D := D) (cI := cI) (cJ := cJ) (cZ := cZ) (q 0) (q 1) (q 2) (q 3) (q 4) (q 5) (q 8) (q 11) (q 12) (q 6) (q 7) (q 9) (q 10) S_n T_n U_n G_s I_i S_iw T_iw U_iw G_is I_j S_jw T_jw U_jw G_js (f (i + 1)) (fun (r : Int) (I_i' : gII) (S_iw' : gWS) (T_iw' : gWT) (G_is' : gGG) (I_j' : gII) (S_jw' : gWS) (T_jw' : gWT) (G_js' : gGG) => r = (if (0 ≤ (f (i + 1)) ∧ (f (i + 1)) ≤ 1) then 1 else -2) ∧ ((f (i + 1)) = 0 → I_i' = 1 ∧ SR B_h S_iw' ∧ TR B_h P_h T_iw' ∧ GR B_h.1 G_is' G_h ∧ I_j' = I_j ∧ S_jw' = S_jw ∧ T_jw' = T_jw ∧ G_js' = G_js) ∧ ((f (i + 1)) = 1 → I_i' = I_i ∧ S_iw' = S_iw ∧ T_iw' = T_iw ∧ G_is' = G_is ∧ I_j' = 1 ∧ SR B_h S_jw' ∧ TR B_h P_h T_jw' ∧ GR B_h.1 G_js' G_h) ∧ (¬ (0 ≤ (f (i + 1)) ∧ (f (i + 1)) ≤ 1) → I_i' = I_i ∧ S_iw' = S_iw ∧ T_iw' = T_iw ∧ G_is' = G_is ∧ I_j' = I_j ∧ S_jw' = S_jw ∧ T_jw' = T_jw ∧ G_js' = G_js)) (s_image hS hT hG (hf _) (fun z S' T' G' a b c => ⟨(if_pos (by omega)).symm, fun _ => ⟨rfl, a, b, c, rfl, rfl, rfl, rfl⟩, fun q => by omega, fun q => absurd (by omega) q⟩) (fun z S' T' G' a b c => ⟨(if_pos (by omega)).symm, fun q => by omega, fun _ => ⟨rfl, rfl, rfl, rfl, rfl, a, b, c⟩, fun q => absurd (by omega) q⟩) (fun z => ⟨(if_neg z).symm, fun q => absurd (by omega) z, fun q => absurd (by omega) z, fun _ => ⟨rfl, rfl, rfl, rfl, rfl, rfl, rfl, rfl⟩⟩))
  have hps := lw_split (G := (gW cI cJ cZ q S_n T_n U_n S_r T_r U_r G_s P_p I_i S_iw T_iw U_iw G_is I_j S_jw T_jw U_jw G_js R_w OC_o O_o B_h P_h N_h L_h E_h V_h G_h D_h O_h Z_h R_h I_h)) [0, 1, 3, 5, 6, 7, 8, 9, 10] [2, 4, 11, 12, 13] hp (by decide)
  rw [lapp_9 (gW cI cJ cZ q S_n T_n U_n S_r T_r U_r G_s P_p I_i S_iw T_iw U_iw G_is I_j S_jw T_jw U_jw G_js R_w OC_o O_o B_h P_h N_h L_h E_h V_h G_h D_h O_h Z_h R_h I_h) 0 1 3 5 6 7 8 9 10, gW_0, gW_1, gW_3, gW_5, gW_6, gW_7, gW_8, gW_9, gW_10] at hps
  refine k_callP (wr := lapp (gW cI cJ cZ q S_n T_n U_n S_r T_r U_r G_s P_p I_i S_iw T_iw U_iw G_is I_j S_jw T_jw U_jw G_js R_w OC_o O_o B_h P_h N_h L_h E_h V_h G_h D_h O_h Z_h R_h I_h) [2, 4, 11, 12, 13]) C dL_law_898 hM gL_law_X6_image rfl sg_X6_image 6 rfl rfl rfl (Nat.le_of_ble_eq_true rfl) ⟨⟨rfl, rfl⟩, Nat.le_of_ble_eq_true rfl, Nat.le_of_ble_eq_true rfl⟩ hcs hps cs sl ⟨rfl, rfl⟩ 901 rfl (fun v w1 hq => ?_)
  obtain ⟨r, I_i', S_iw', T_iw', G_is', I_j', S_jw', T_jw', G_js', rfl, rfl, hc⟩ := hq
  have hpj := lw_join (G := (gW cI cJ cZ q S_n T_n U_n S_r T_r U_r G_s P_p I_i' S_iw' T_iw' U_iw G_is' I_j' S_jw' T_jw' U_jw G_js' R_w OC_o O_o B_h P_h N_h L_h E_h V_h G_h D_h O_h Z_h R_h I_h)) [2, 4, 11, 12, 13] [0, 1, 3, 5, 6, 7, 8, 9, 10] (by decide)
  rw [lapp_agr (G := (gW cI cJ cZ q S_n T_n U_n S_r T_r U_r G_s P_p I_i' S_iw' T_iw' U_iw G_is' I_j' S_jw' T_jw' U_jw G_js' R_w OC_o O_o B_h P_h N_h L_h E_h V_h G_h D_h O_h Z_h R_h I_h)) (G' := (gW cI cJ cZ q S_n T_n U_n S_r T_r U_r G_s P_p I_i S_iw T_iw U_iw G_is I_j S_jw T_jw U_jw G_js R_w OC_o O_o B_h P_h N_h L_h E_h V_h G_h D_h O_h Z_h R_h I_h)) [2, 4, 11, 12, 13] ⟨rfl, rfl, rfl, rfl, rfl, trivial⟩, lapp_9 (gW cI cJ cZ q S_n T_n U_n S_r T_r U_r G_s P_p I_i' S_iw' T_iw' U_iw G_is' I_j' S_jw' T_jw' U_jw G_js' R_w OC_o O_o B_h P_h N_h L_h E_h V_h G_h D_h O_h Z_h R_h I_h) 0 1 3 5 6 7 8 9 10, gW_0, gW_1, gW_3, gW_5, gW_6, gW_7, gW_8, gW_9, gW_10] at hpj
  refine k_permP (ws' := gall (gW cI cJ cZ q S_n T_n U_n S_r T_r U_r G_s P_p I_i' S_iw' T_iw' U_iw G_is' I_j' S_jw' T_jw' U_jw G_js' R_w OC_o O_o B_h P_h N_h L_h E_h V_h G_h D_h O_h Z_h R_h I_h)) C hpj ?_
  refine k_st (K := K) [.int (iI r)] _ rfl rfl ?_
  refine k_aload_n C dL_law_901 1 rfl rfl 902 rfl ?_
  refine k_aload_n C dL_law_902 3 rfl rfl 903 rfl ?_
  refine k_iload_n C dL_law_903 0 rfl rfl 904 rfl ?_
  refine k_iconst C dL_law_904 905 rfl ?_
  refine k_iadd C dL_law_905 906 rfl ?_
  refine sld dL_law_906 (by omega) (by omega) rfl ?_
  have hM := c_X7_image (l := l) (D := D) (cI := cI) (cJ := cJ) (cZ := cZ) (q 13) B_h P_h N_h L_h E_h V_h G_h D_h O_h Z_h R_h I_h (f (i + 1)) (fun (r : Int) (I_h' : gMI) => r = (if (0 ≤ (f (i + 1)) ∧ (f (i + 1)) ≤ 1) then 1 else -2) ∧ ((0 ≤ (f (i + 1)) ∧ (f (i + 1)) ≤ 1) → ImgR I_h'.1 (80 * (f (i + 1))) B_h P_h G_h ∧ (∀ j, (j < 80 * (f (i + 1)) ∨ 80 * (f (i + 1)) + 80 ≤ j) → I_h'.1 j = I_h.1 j) ∧ I_h'.2 = aset I_h.2 (f (i + 1)) 1) ∧ (¬ (0 ≤ (f (i + 1)) ∧ (f (i + 1)) ≤ 1) → I_h' = I_h)) (s_X7_image (hf _) (fun z0 z1 g a b => ⟨(if_pos ⟨z0, z1⟩).symm, fun _ => ⟨a, b, rfl⟩, fun q => absurd ⟨z0, z1⟩ q⟩) (fun z => ⟨(if_neg z).symm, fun q => absurd q z, fun _ => rfl⟩))
  have hps := lw_split (G := (gW cI cJ cZ q S_n T_n U_n S_r T_r U_r G_s P_p I_i' S_iw' T_iw' U_iw G_is' I_j' S_jw' T_jw' U_jw G_js' R_w OC_o O_o B_h P_h N_h L_h E_h V_h G_h D_h O_h Z_h R_h I_h)) [13] [0, 1, 2, 3, 4, 5, 6, 7, 8, 9, 10, 11, 12] (List.Perm.refl _) (by decide)
  rw [lapp_1 (gW cI cJ cZ q S_n T_n U_n S_r T_r U_r G_s P_p I_i' S_iw' T_iw' U_iw G_is' I_j' S_jw' T_jw' U_jw G_js' R_w OC_o O_o B_h P_h N_h L_h E_h V_h G_h D_h O_h Z_h R_h I_h) 13, gW_13] at hps
  refine k_callP (wr := lapp (gW cI cJ cZ q S_n T_n U_n S_r T_r U_r G_s P_p I_i' S_iw' T_iw' U_iw G_is' I_j' S_jw' T_jw' U_jw G_js' R_w OC_o O_o B_h P_h N_h L_h E_h V_h G_h D_h O_h Z_h R_h I_h) [0, 1, 2, 3, 4, 5, 6, 7, 8, 9, 10, 11, 12]) C dL_law_907 hM gL_law_X7_image rfl sg_X7_image 7 rfl rfl rfl (Nat.le_of_ble_eq_true rfl) ⟨⟨rfl, rfl⟩, Nat.le_of_ble_eq_true rfl, Nat.le_of_ble_eq_true rfl⟩ hcs hps cs sl ⟨rfl, rfl⟩ 910 rfl (fun v w1 hq => ?_)
  obtain ⟨r2, I_h', rfl, rfl, hm⟩ := hq
  have hpj2 := lw_join (G := (gW cI cJ cZ q S_n T_n U_n S_r T_r U_r G_s P_p I_i' S_iw' T_iw' U_iw G_is' I_j' S_jw' T_jw' U_jw G_js' R_w OC_o O_o B_h P_h N_h L_h E_h V_h G_h D_h O_h Z_h R_h I_h')) [0, 1, 2, 3, 4, 5, 6, 7, 8, 9, 10, 11, 12] [13] (by decide)
  rw [lapp_agr (G := (gW cI cJ cZ q S_n T_n U_n S_r T_r U_r G_s P_p I_i' S_iw' T_iw' U_iw G_is' I_j' S_jw' T_jw' U_jw G_js' R_w OC_o O_o B_h P_h N_h L_h E_h V_h G_h D_h O_h Z_h R_h I_h')) (G' := (gW cI cJ cZ q S_n T_n U_n S_r T_r U_r G_s P_p I_i' S_iw' T_iw' U_iw G_is' I_j' S_jw' T_jw' U_jw G_js' R_w OC_o O_o B_h P_h N_h L_h E_h V_h G_h D_h O_h Z_h R_h I_h)) [0, 1, 2, 3, 4, 5, 6, 7, 8, 9, 10, 11, 12] ⟨rfl, rfl, rfl, rfl, rfl, rfl, rfl, rfl, rfl, rfl, rfl, rfl, rfl, trivial⟩, lapp_1 (gW cI cJ cZ q S_n T_n U_n S_r T_r U_r G_s P_p I_i' S_iw' T_iw' U_iw G_is' I_j' S_jw' T_jw' U_jw G_js' R_w OC_o O_o B_h P_h N_h L_h E_h V_h G_h D_h O_h Z_h R_h I_h') 13, gW_13] at hpj2
  refine k_permP (ws' := gall (gW cI cJ cZ q S_n T_n U_n S_r T_r U_r G_s P_p I_i' S_iw' T_iw' U_iw G_is' I_j' S_jw' T_jw' U_jw G_js' R_w OC_o O_o B_h P_h N_h L_h E_h V_h G_h D_h O_h Z_h R_h I_h')) C hpj2 ?_
  refine k_st (K := K) [.int (iI r2), .int (iI r)] _ rfl rfl ?_
  obtain ⟨rfl, c1, c2, c0⟩ := hc
  obtain ⟨rfl, m1, m0⟩ := hm
  have hX : IR 0 I_h' I_i' S_iw' T_iw' G_is' ∧ IR 1 I_h' I_j' S_jw' T_jw' G_js' := by
    generalize (f (i + 1)) = k at c1 c2 c0 m1 m0
    by_cases z : 0 ≤ k ∧ k ≤ 1
    · obtain ⟨a1, a2, a3⟩ := m1 z
      by_cases z0 : k = 0
      · obtain ⟨rfl, b1, b2, b3, rfl, rfl, rfl, rfl⟩ := c1 z0
        subst z0
        refine ⟨⟨by rw [a3]; exact aset_s, Or.inr rfl, fun _ => ⟨B_h, P_h, G_h, hI, hZ, b1, b2, b3, a1⟩⟩, ⟨by rw [a3, aset_n (by decide)]; exact hj.1, hj.2.1, fun y => ?_⟩⟩
        obtain ⟨B', N', H', h1, h2, h3, h4, h5, h6⟩ := hj.2.2 y
        exact ⟨B', N', H', h1, h2, h3, h4, h5, ImgR_fr h6 (fun j j0 j1 => a2 j (by omega))⟩
      · have z1 : k = 1 := by omega
        obtain ⟨rfl, rfl, rfl, rfl, rfl, b1, b2, b3⟩ := c2 z1
        subst z1
        refine ⟨⟨by rw [a3, aset_n (by decide)]; exact hi.1, hi.2.1, fun y => ?_⟩, ⟨by rw [a3]; exact aset_s, Or.inr rfl, fun _ => ⟨B_h, P_h, G_h, hI, hZ, b1, b2, b3, a1⟩⟩⟩
        obtain ⟨B', N', H', h1, h2, h3, h4, h5, h6⟩ := hi.2.2 y
        exact ⟨B', N', H', h1, h2, h3, h4, h5, ImgR_fr h6 (fun j j0 j1 => a2 j (by omega))⟩
    · obtain ⟨rfl, rfl, rfl, rfl, rfl, rfl, rfl, rfl⟩ := c0 z
      obtain rfl := m0 z
      exact ⟨hi, hj⟩
  exact k_icmp_same C dL_law_910 961 (by decide) (nx _ ⟨S_n, T_n, U_n, S_r, T_r, U_r, G_s, P_p, I_i', S_iw', T_iw', U_iw, G_is', I_j', S_jw', T_jw', U_jw, G_js', R_w, OC_o, O_o, B_h, P_h, N_h, L_h, E_h, V_h, G_h, D_h, O_h, Z_h, R_h, I_h', List.Perm.refl _, hI, hZ, hS, hT, hG, hP, hN, hX.1, hX.2⟩)
set_option maxHeartbeats 4000000 in
set_option maxRecDepth 20000 in
theorem lst_restore {D : va_G} {A : Nat → Prop} {l : Launch} {K : KT} {cI cJ cZ : ClassId} {q : Nat → Nat → Nat} {b cs sl : Nat} {f : Int → Int} {Ln i : Int} {ws : va_W} (C : KC cL_law RL wsL_law room_1 4 D (kT cI cJ cZ) A l false (fun _ _ => False) 0 0 K) (sld : ∀ {pc n : Nat} {lv : List (Nat × Value)} {st : List Value} {ws : va_W} {i : Int}, decode cL_law pc = .ok (.iaload, 1) → 0 ≤ i → i < Ln → pc + 1 = n → K cs sl n lv (.int (iI (f i)) :: st) ws → K cs sl pc lv (.int (iI i) :: .ref b :: st) ws) (hf : ∀ k, rI (f k)) (hcs : cs + 0 ≤ room_1.cells ∧ sl + 0 ≤ room_1.slots) (i0 : 0 ≤ i) (i1 : i + 4 < Ln) (hR : LRel cI cJ cZ q ws) (nx : ∀ ws', LRel cI cJ cZ q ws' → K cs sl 961 [(3, .int (iI i)), (2, .ref (q 13 0)), (1, .ref (q 0 0)), (0, .ref b)] [] ws') : K cs sl 915 [(3, .int (iI i)), (2, .ref (q 13 0)), (1, .ref (q 0 0)), (0, .ref b)] [] ws := by
  obtain ⟨S_n, T_n, U_n, S_r, T_r, U_r, G_s, P_p, I_i, S_iw, T_iw, U_iw, G_is, I_j, S_jw, T_jw, U_jw, G_js, R_w, OC_o, O_o, B_h, P_h, N_h, L_h, E_h, V_h, G_h, D_h, O_h, Z_h, R_h, I_h, hp, hI, hZ, hS, hT, hG, hP, hN, hi, hj⟩ := hR
  obtain ⟨hi1, hi2, hi3⟩ := id hi
  obtain ⟨hj1, hj2, hj3⟩ := id hj
  obtain ⟨Bi, Ni, Hi, ti⟩ : ∃ (B' : gMB) (N' : gMN) (H' : gMG), I_i ≠ 0 → Inv B' N' ∧ BZ B' ∧ SR B' S_iw ∧ TR B' N' T_iw ∧ GR B'.1 G_is H' ∧ ImgR I_h.1 (80 * 0) B' N' H' := by
    by_cases y : I_i ≠ 0
    · obtain ⟨B', N', H', t⟩ := hi3 y
      exact ⟨B', N', H', fun _ => t⟩
    · exact ⟨B_h, P_h, G_h, fun z => absurd z y⟩
  obtain ⟨Bj, Nj, Hj, tj⟩ : ∃ (B' : gMB) (N' : gMN) (H' : gMG), I_j ≠ 0 → Inv B' N' ∧ BZ B' ∧ SR B' S_jw ∧ TR B' N' T_jw ∧ GR B'.1 G_js H' ∧ ImgR I_h.1 (80 * 1) B' N' H' := by
    by_cases y : I_j ≠ 0
    · obtain ⟨B', N', H', t⟩ := hj3 y
      exact ⟨B', N', H', fun _ => t⟩
    · exact ⟨B_h, P_h, G_h, fun z => absurd z y⟩
  obtain ⟨k, ek⟩ : ∃ k, (f (i + 1)) = k := ⟨_, rfl⟩
  have hk : rI k := ek ▸ hf _
  obtain ⟨Bk, Nk, Hk, tk⟩ : ∃ (B' : gMB) (N' : gMN) (H' : gMG), 0 ≤ k → k ≤ 1 → I_h.2 k ≠ 0 → Inv B' N' ∧ BZ B' ∧ GR B'.1 (if k = 0 then G_is else G_js) H' ∧ ImgR I_h.1 (80 * k) B' N' H' ∧ (k = 0 → B' = Bi ∧ N' = Ni ∧ H' = Hi) ∧ (k = 1 → B' = Bj ∧ N' = Nj ∧ H' = Hj) := by
    by_cases z0 : k = 0
    · refine ⟨Bi, Ni, Hi, fun _ _ y => ?_⟩
      rw [z0, hi1] at y
      obtain ⟨h1, h2, h3, h4, h5, h6⟩ := ti y
      rw [if_pos z0, z0]
      exact ⟨h1, h2, h5, h6, fun _ => ⟨rfl, rfl, rfl⟩, fun q => absurd q (by decide)⟩
    · refine ⟨Bj, Nj, Hj, fun a b y => ?_⟩
      have z1 : k = 1 := by omega
      rw [z1, hj1] at y
      obtain ⟨h1, h2, h3, h4, h5, h6⟩ := tj y
      rw [if_neg z0, z1]
      exact ⟨h1, h2, h5, h6, fun q => absurd q (by decide), fun _ => ⟨rfl, rfl, rfl⟩⟩
  have rIh : rI I_i := by
    rcases hi2 with h | h <;> rw [h] <;> exact ⟨by decide, by decide⟩
  have rJh : rI I_j := by
    rcases hj2 with h | h <;> rw [h] <;> exact ⟨by decide, by decide⟩
  have rKh : 0 ≤ k → k ≤ 1 → I_h.2 k = 0 ∨ I_h.2 k = 1 := fun a b => by
    rcases (by omega : k = 0 ∨ k = 1) with z | z
    · rw [z, hi1]; exact hi2
    · rw [z, hj1]; exact hj2
  refine k_aload_n C dL_law_915 2 rfl rfl 916 rfl ?_
  refine k_aload_n C dL_law_916 3 rfl rfl 917 rfl ?_
  refine k_iload_n C dL_law_917 0 rfl rfl 918 rfl ?_
  refine k_iconst C dL_law_918 919 rfl ?_
  refine k_iadd C dL_law_919 920 rfl ?_
  refine sld dL_law_920 (by omega) (by omega) rfl ?_
  have hM := c_X6_restore (l := l) (D := D) (cI := cI) (cJ := cJ) (cZ := cZ) (q 0) (q 1) (q 2) (q 3) (q 4) (q 5) (q 8) (q 11) (q 12) (q 6) (q 7) (q 9) (q 10) S_n T_n U_n G_s I_i S_iw T_iw U_iw G_is I_j S_jw T_jw U_jw G_js (f (i + 1)) (fun (r : Int) (S_n' : gWS) (T_n' : gWT) (G_s' : gGG) => r = (if 0 ≤ k ∧ k ≤ 1 then (if I_h.2 k = 0 then -3 else 1) else -2) ∧ (0 ≤ k → k ≤ 1 → I_h.2 k ≠ 0 → SR Bk S_n' ∧ TR Bk Nk T_n' ∧ GR Bk.1 G_s' Hk) ∧ (¬ ((0 ≤ k ∧ k ≤ 1) ∧ I_h.2 k ≠ 0) → S_n' = S_n ∧ T_n' = T_n ∧ G_s' = G_s)) (by
    rw [ek]
    refine s_restore (Bi := Bi) (Ni := Ni) (Hi := Hi) (Bj := Bj) (Nj := Nj) (Hj := Hj) rIh rJh (fun y => ⟨(ti y).2.2.1, (ti y).2.2.2.1, (ti y).2.2.2.2.1⟩) (fun y => ⟨(tj y).2.2.1, (tj y).2.2.2.1, (tj y).2.2.2.2.1⟩) hk (fun z y S' T' G' a b c => ?_) (fun z y S' T' G' a b c => ?_) (fun z => ?_) (fun z => ⟨(if_neg z).symm, fun a b => absurd ⟨a, b⟩ z, fun _ => ⟨rfl, rfl, rfl⟩⟩)
    · have y2 : I_h.2 k ≠ 0 := by rw [z, hi1]; exact y
      refine ⟨by rw [if_pos (by omega), if_neg y2], fun p0 p1 p2 => ?_, fun p => absurd ⟨by omega, y2⟩ p⟩
      obtain ⟨e1, e2, e3⟩ := (tk p0 p1 p2).2.2.2.2.1 z
      rw [e1, e2, e3]; exact ⟨a, b, c⟩
    · have y2 : I_h.2 k ≠ 0 := by rw [z, hj1]; exact y
      refine ⟨by rw [if_pos (by omega), if_neg y2], fun p0 p1 p2 => ?_, fun p => absurd ⟨by omega, y2⟩ p⟩
      obtain ⟨e1, e2, e3⟩ := (tk p0 p1 p2).2.2.2.2.2 z
      rw [e1, e2, e3]; exact ⟨a, b, c⟩
    · have y2 : I_h.2 k = 0 := by
        rcases z with ⟨z, y⟩ | ⟨z, y⟩
        · rw [z, hi1]; exact y
        · rw [z, hj1]; exact y
      exact ⟨by rw [if_pos (by omega), if_pos y2], fun _ _ p => absurd y2 p, fun _ => ⟨rfl, rfl, rfl⟩⟩)
  have hps := lw_split (G := (gW cI cJ cZ q S_n T_n U_n S_r T_r U_r G_s P_p I_i S_iw T_iw U_iw G_is I_j S_jw T_jw U_jw G_js R_w OC_o O_o B_h P_h N_h L_h E_h V_h G_h D_h O_h Z_h R_h I_h)) [0, 1, 3, 5, 6, 7, 8, 9, 10] [2, 4, 11, 12, 13] hp (by decide)
  rw [lapp_9 (gW cI cJ cZ q S_n T_n U_n S_r T_r U_r G_s P_p I_i S_iw T_iw U_iw G_is I_j S_jw T_jw U_jw G_js R_w OC_o O_o B_h P_h N_h L_h E_h V_h G_h D_h O_h Z_h R_h I_h) 0 1 3 5 6 7 8 9 10, gW_0, gW_1, gW_3, gW_5, gW_6, gW_7, gW_8, gW_9, gW_10] at hps
  refine k_callP (wr := lapp (gW cI cJ cZ q S_n T_n U_n S_r T_r U_r G_s P_p I_i S_iw T_iw U_iw G_is I_j S_jw T_jw U_jw G_js R_w OC_o O_o B_h P_h N_h L_h E_h V_h G_h D_h O_h Z_h R_h I_h) [2, 4, 11, 12, 13]) C dL_law_921 hM gL_law_X6_restore rfl sg_X6_restore 6 rfl rfl rfl (Nat.le_of_ble_eq_true rfl) ⟨⟨rfl, rfl⟩, Nat.le_of_ble_eq_true rfl, Nat.le_of_ble_eq_true rfl⟩ hcs hps cs sl ⟨rfl, rfl⟩ 924 rfl (fun v w1 hq => ?_)
  obtain ⟨r, S_n', T_n', G_s', rfl, rfl, hc⟩ := hq
  have hpj := lw_join (G := (gW cI cJ cZ q S_n' T_n' U_n S_r T_r U_r G_s' P_p I_i S_iw T_iw U_iw G_is I_j S_jw T_jw U_jw G_js R_w OC_o O_o B_h P_h N_h L_h E_h V_h G_h D_h O_h Z_h R_h I_h)) [2, 4, 11, 12, 13] [0, 1, 3, 5, 6, 7, 8, 9, 10] (by decide)
  rw [lapp_agr (G := (gW cI cJ cZ q S_n' T_n' U_n S_r T_r U_r G_s' P_p I_i S_iw T_iw U_iw G_is I_j S_jw T_jw U_jw G_js R_w OC_o O_o B_h P_h N_h L_h E_h V_h G_h D_h O_h Z_h R_h I_h)) (G' := (gW cI cJ cZ q S_n T_n U_n S_r T_r U_r G_s P_p I_i S_iw T_iw U_iw G_is I_j S_jw T_jw U_jw G_js R_w OC_o O_o B_h P_h N_h L_h E_h V_h G_h D_h O_h Z_h R_h I_h)) [2, 4, 11, 12, 13] ⟨rfl, rfl, rfl, rfl, rfl, trivial⟩, lapp_9 (gW cI cJ cZ q S_n' T_n' U_n S_r T_r U_r G_s' P_p I_i S_iw T_iw U_iw G_is I_j S_jw T_jw U_jw G_js R_w OC_o O_o B_h P_h N_h L_h E_h V_h G_h D_h O_h Z_h R_h I_h) 0 1 3 5 6 7 8 9 10, gW_0, gW_1, gW_3, gW_5, gW_6, gW_7, gW_8, gW_9, gW_10] at hpj
  refine k_permP (ws' := gall (gW cI cJ cZ q S_n' T_n' U_n S_r T_r U_r G_s' P_p I_i S_iw T_iw U_iw G_is I_j S_jw T_jw U_jw G_js R_w OC_o O_o B_h P_h N_h L_h E_h V_h G_h D_h O_h Z_h R_h I_h)) C hpj ?_
  refine k_st (K := K) [.int (iI r)] _ rfl rfl ?_
  refine k_aload_n C dL_law_924 1 rfl rfl 925 rfl ?_
  refine k_aload_n C dL_law_925 3 rfl rfl 926 rfl ?_
  refine k_iload_n C dL_law_926 0 rfl rfl 927 rfl ?_
  refine k_iconst C dL_law_927 928 rfl ?_
  refine k_iadd C dL_law_928 929 rfl ?_
  refine sld dL_law_929 (by omega) (by omega) rfl ?_
  have hM := c_X7_restore (l := l) (D := D) (cI := cI) (cJ := cJ) (cZ := cZ) (q 13) B_h P_h N_h L_h E_h V_h G_h D_h O_h Z_h R_h I_h (f (i + 1)) (fun (r : Int) (B_h' : gMB) (P_h' : gMP) (G_h' : gMG) => r = (if 0 ≤ k ∧ k ≤ 1 then (if I_h.2 k = 0 then -3 else 1) else -2) ∧ (0 ≤ k → k ≤ 1 → I_h.2 k ≠ 0 → B_h' = Bk ∧ P_h' = Nk ∧ G_h'.1 = Hk.1 ∧ ∀ j, 0 ≤ j → j < 16 → G_h'.2 j = Hk.2 j) ∧ (¬ ((0 ≤ k ∧ k ≤ 1) ∧ I_h.2 k ≠ 0) → B_h' = B_h ∧ P_h' = P_h ∧ G_h' = G_h)) (by
    rw [ek]
    by_cases q : 0 ≤ k ∧ k ≤ 1
    · have r3 := rKh q.1 q.2
      exact s_X7_restore (B' := Bk) (P' := Nk) (H' := Hk) hk hZ hI.2.1.1 ⟨by omega, by omega⟩ (fun a b y => ⟨(tk a b y).2.2.2.1, (tk a b y).2.1, (tk a b y).1.2.1.1⟩) (fun a b y g e => ⟨by rw [if_pos q, if_neg y], fun _ _ _ => ⟨rfl, rfl, rfl, e⟩, fun p => absurd ⟨q, y⟩ p⟩) (fun a b y => ⟨by rw [if_pos q, if_pos y], fun _ _ p => absurd y p, fun _ => ⟨rfl, rfl, rfl⟩⟩) (fun p => absurd q p)
    · have w : ∀ Q, Q (-2) B_h P_h G_h → wp_X7_restore B_h P_h G_h I_h k Q := fun Q h => by
        unfold wp_X7_restore
        exact s_X7_in hk (by decide) (by decide) (fun a b => absurd ⟨a, b⟩ q) (fun _ => ⟨fun z => absurd rfl z, fun _ => h⟩)
      exact w _ ⟨(if_neg q).symm, fun a b => absurd ⟨a, b⟩ q, fun _ => ⟨rfl, rfl, rfl⟩⟩)
  have hps := lw_split (G := (gW cI cJ cZ q S_n' T_n' U_n S_r T_r U_r G_s' P_p I_i S_iw T_iw U_iw G_is I_j S_jw T_jw U_jw G_js R_w OC_o O_o B_h P_h N_h L_h E_h V_h G_h D_h O_h Z_h R_h I_h)) [13] [0, 1, 2, 3, 4, 5, 6, 7, 8, 9, 10, 11, 12] (List.Perm.refl _) (by decide)
  rw [lapp_1 (gW cI cJ cZ q S_n' T_n' U_n S_r T_r U_r G_s' P_p I_i S_iw T_iw U_iw G_is I_j S_jw T_jw U_jw G_js R_w OC_o O_o B_h P_h N_h L_h E_h V_h G_h D_h O_h Z_h R_h I_h) 13, gW_13] at hps
  refine k_callP (wr := lapp (gW cI cJ cZ q S_n' T_n' U_n S_r T_r U_r G_s' P_p I_i S_iw T_iw U_iw G_is I_j S_jw T_jw U_jw G_js R_w OC_o O_o B_h P_h N_h L_h E_h V_h G_h D_h O_h Z_h R_h I_h) [0, 1, 2, 3, 4, 5, 6, 7, 8, 9, 10, 11, 12]) C dL_law_930 hM gL_law_X7_restore rfl sg_X7_restore 7 rfl rfl rfl (Nat.le_of_ble_eq_true rfl) ⟨⟨rfl, rfl⟩, Nat.le_of_ble_eq_true rfl, Nat.le_of_ble_eq_true rfl⟩ hcs hps cs sl ⟨rfl, rfl⟩ 933 rfl (fun v w1 hq => ?_)
  obtain ⟨r2, B_h', P_h', G_h', rfl, rfl, hm⟩ := hq
  have hpj2 := lw_join (G := (gW cI cJ cZ q S_n' T_n' U_n S_r T_r U_r G_s' P_p I_i S_iw T_iw U_iw G_is I_j S_jw T_jw U_jw G_js R_w OC_o O_o B_h' P_h' N_h L_h E_h V_h G_h' D_h O_h Z_h R_h I_h)) [0, 1, 2, 3, 4, 5, 6, 7, 8, 9, 10, 11, 12] [13] (by decide)
  rw [lapp_agr (G := (gW cI cJ cZ q S_n' T_n' U_n S_r T_r U_r G_s' P_p I_i S_iw T_iw U_iw G_is I_j S_jw T_jw U_jw G_js R_w OC_o O_o B_h' P_h' N_h L_h E_h V_h G_h' D_h O_h Z_h R_h I_h)) (G' := (gW cI cJ cZ q S_n' T_n' U_n S_r T_r U_r G_s' P_p I_i S_iw T_iw U_iw G_is I_j S_jw T_jw U_jw G_js R_w OC_o O_o B_h P_h N_h L_h E_h V_h G_h D_h O_h Z_h R_h I_h)) [0, 1, 2, 3, 4, 5, 6, 7, 8, 9, 10, 11, 12] ⟨rfl, rfl, rfl, rfl, rfl, rfl, rfl, rfl, rfl, rfl, rfl, rfl, rfl, trivial⟩, lapp_1 (gW cI cJ cZ q S_n' T_n' U_n S_r T_r U_r G_s' P_p I_i S_iw T_iw U_iw G_is I_j S_jw T_jw U_jw G_js R_w OC_o O_o B_h' P_h' N_h L_h E_h V_h G_h' D_h O_h Z_h R_h I_h) 13, gW_13] at hpj2
  refine k_permP (ws' := gall (gW cI cJ cZ q S_n' T_n' U_n S_r T_r U_r G_s' P_p I_i S_iw T_iw U_iw G_is I_j S_jw T_jw U_jw G_js R_w OC_o O_o B_h' P_h' N_h L_h E_h V_h G_h' D_h O_h Z_h R_h I_h)) C hpj2 ?_
  refine k_st (K := K) [.int (iI r2), .int (iI r)] _ rfl rfl ?_
  obtain ⟨rfl, c1, c0⟩ := hc
  obtain ⟨rfl, m1, m0⟩ := hm
  have hX : Inv B_h' P_h' ∧ BZ B_h' ∧ SR B_h' S_n' ∧ TR B_h' P_h' T_n' ∧ GR B_h'.1 G_s' G_h' := by
    by_cases z : (0 ≤ k ∧ k ≤ 1) ∧ I_h.2 k ≠ 0
    · obtain ⟨h1, h2, _⟩ := tk z.1.1 z.1.2 z.2
      obtain ⟨s1, s2, s3⟩ := c1 z.1.1 z.1.2 z.2
      obtain ⟨rfl, rfl, e3, e4⟩ := m1 z.1.1 z.1.2 z.2
      obtain ⟨g1, g2, g3⟩ := s3
      refine ⟨h1, h2, s1, s2, ⟨by rw [e3]; exact g1, by rw [e3]; exact g2, fun j j0 j1 => ?_⟩⟩
      rw [e3] at j1
      rw [e4 _ (by omega) (by omega), e4 _ (by omega) (by omega)]
      exact g3 j j0 j1
    · obtain ⟨rfl, rfl, rfl⟩ := m0 z
      obtain ⟨rfl, rfl, rfl⟩ := c0 z
      exact ⟨hI, hZ, hS, hT, hG⟩
  exact k_icmp_same C dL_law_933 961 (by decide) (nx _ ⟨S_n', T_n', U_n, S_r, T_r, U_r, G_s', P_p, I_i, S_iw, T_iw, U_iw, G_is, I_j, S_jw, T_jw, U_jw, G_js, R_w, OC_o, O_o, B_h', P_h', N_h, L_h, E_h, V_h, G_h', D_h, O_h, Z_h, R_h, I_h, List.Perm.refl _, hX.1, hX.2.1, hX.2.2.1, hX.2.2.2.1, hX.2.2.2.2, hP, hN, hi, hj⟩)
set_option maxHeartbeats 4000000 in
set_option maxRecDepth 20000 in
theorem lst_told {D : va_G} {A : Nat → Prop} {l : Launch} {K : KT} {cI cJ cZ : ClassId} {q : Nat → Nat → Nat} {b cs sl : Nat} {f : Int → Int} {Ln i : Int} {ws : va_W} (C : KC cL_law RL wsL_law room_1 4 D (kT cI cJ cZ) A l false (fun _ _ => False) 0 0 K) (sld : ∀ {pc n : Nat} {lv : List (Nat × Value)} {st : List Value} {ws : va_W} {i : Int}, decode cL_law pc = .ok (.iaload, 1) → 0 ≤ i → i < Ln → pc + 1 = n → K cs sl n lv (.int (iI (f i)) :: st) ws → K cs sl pc lv (.int (iI i) :: .ref b :: st) ws) (hf : ∀ k, rI (f k)) (hcs : cs + 0 ≤ room_1.cells ∧ sl + 0 ≤ room_1.slots) (i0 : 0 ≤ i) (i1 : i + 4 < Ln) (hR : LRel cI cJ cZ q ws) (nx : ∀ ws', LRel cI cJ cZ q ws' → K cs sl 961 [(3, .int (iI i)), (2, .ref (q 13 0)), (1, .ref (q 0 0)), (0, .ref b)] [] ws') : K cs sl 938 [(3, .int (iI i)), (2, .ref (q 13 0)), (1, .ref (q 0 0)), (0, .ref b)] [] ws := by
  obtain ⟨S_n, T_n, U_n, S_r, T_r, U_r, G_s, P_p, I_i, S_iw, T_iw, U_iw, G_is, I_j, S_jw, T_jw, U_jw, G_js, R_w, OC_o, O_o, B_h, P_h, N_h, L_h, E_h, V_h, G_h, D_h, O_h, Z_h, R_h, I_h, hp, hI, hZ, hS, hT, hG, hP, hN, hi, hj⟩ := hR
  refine k_aload_n C dL_law_938 2 rfl rfl 939 rfl ?_
  refine k_aload_n C dL_law_939 3 rfl rfl 940 rfl ?_
  refine k_iload_n C dL_law_940 0 rfl rfl 941 rfl ?_
  refine k_iconst C dL_law_941 942 rfl ?_
  refine k_iadd C dL_law_942 943 rfl ?_
  refine sld dL_law_943 (by omega) (by omega) rfl ?_
  have hM := c_X6_told (l := l) (D := D) (cI := cI) (cJ := cJ) (cZ := cZ) (q 0) (q 1) (q 2) (q 3) (q 4) (q 5) (q 8) (q 11) (q 12) S_n T_n U_n G_s P_p (f (i + 1)) (fun (r : Int)  => r = vTold B_h P_h G_h.1 D_h.1 (f (i + 1))) (s_told hI.1 hS hT hG.1 hP.1 (hf _) rfl)
  have hps := lw_split (G := (gW cI cJ cZ q S_n T_n U_n S_r T_r U_r G_s P_p I_i S_iw T_iw U_iw G_is I_j S_jw T_jw U_jw G_js R_w OC_o O_o B_h P_h N_h L_h E_h V_h G_h D_h O_h Z_h R_h I_h)) [0, 1, 3, 4] [2, 5, 6, 7, 8, 9, 10, 11, 12, 13] hp (by decide)
  rw [lapp_4 (gW cI cJ cZ q S_n T_n U_n S_r T_r U_r G_s P_p I_i S_iw T_iw U_iw G_is I_j S_jw T_jw U_jw G_js R_w OC_o O_o B_h P_h N_h L_h E_h V_h G_h D_h O_h Z_h R_h I_h) 0 1 3 4, gW_0, gW_1, gW_3, gW_4] at hps
  refine k_callP (wr := lapp (gW cI cJ cZ q S_n T_n U_n S_r T_r U_r G_s P_p I_i S_iw T_iw U_iw G_is I_j S_jw T_jw U_jw G_js R_w OC_o O_o B_h P_h N_h L_h E_h V_h G_h D_h O_h Z_h R_h I_h) [2, 5, 6, 7, 8, 9, 10, 11, 12, 13]) C dL_law_944 hM gL_law_X6_told rfl sg_X6_told 6 rfl rfl rfl (Nat.le_of_ble_eq_true rfl) ⟨⟨rfl, rfl⟩, Nat.le_of_ble_eq_true rfl, Nat.le_of_ble_eq_true rfl⟩ hcs hps cs sl ⟨rfl, rfl⟩ 947 rfl (fun v w1 hq => ?_)
  obtain ⟨r, rfl, rfl, hc⟩ := hq
  have hpj := lw_join (G := (gW cI cJ cZ q S_n T_n U_n S_r T_r U_r G_s P_p I_i S_iw T_iw U_iw G_is I_j S_jw T_jw U_jw G_js R_w OC_o O_o B_h P_h N_h L_h E_h V_h G_h D_h O_h Z_h R_h I_h)) [2, 5, 6, 7, 8, 9, 10, 11, 12, 13] [0, 1, 3, 4] (by decide)
  rw [lapp_agr (G := (gW cI cJ cZ q S_n T_n U_n S_r T_r U_r G_s P_p I_i S_iw T_iw U_iw G_is I_j S_jw T_jw U_jw G_js R_w OC_o O_o B_h P_h N_h L_h E_h V_h G_h D_h O_h Z_h R_h I_h)) (G' := (gW cI cJ cZ q S_n T_n U_n S_r T_r U_r G_s P_p I_i S_iw T_iw U_iw G_is I_j S_jw T_jw U_jw G_js R_w OC_o O_o B_h P_h N_h L_h E_h V_h G_h D_h O_h Z_h R_h I_h)) [2, 5, 6, 7, 8, 9, 10, 11, 12, 13] ⟨rfl, rfl, rfl, rfl, rfl, rfl, rfl, rfl, rfl, rfl, trivial⟩, lapp_4 (gW cI cJ cZ q S_n T_n U_n S_r T_r U_r G_s P_p I_i S_iw T_iw U_iw G_is I_j S_jw T_jw U_jw G_js R_w OC_o O_o B_h P_h N_h L_h E_h V_h G_h D_h O_h Z_h R_h I_h) 0 1 3 4, gW_0, gW_1, gW_3, gW_4] at hpj
  refine k_permP (ws' := gall (gW cI cJ cZ q S_n T_n U_n S_r T_r U_r G_s P_p I_i S_iw T_iw U_iw G_is I_j S_jw T_jw U_jw G_js R_w OC_o O_o B_h P_h N_h L_h E_h V_h G_h D_h O_h Z_h R_h I_h)) C hpj ?_
  refine k_st (K := K) [.int (iI r)] _ rfl rfl ?_
  refine k_aload_n C dL_law_947 1 rfl rfl 948 rfl ?_
  refine k_aload_n C dL_law_948 3 rfl rfl 949 rfl ?_
  refine k_iload_n C dL_law_949 0 rfl rfl 950 rfl ?_
  refine k_iconst C dL_law_950 951 rfl ?_
  refine k_iadd C dL_law_951 952 rfl ?_
  refine sld dL_law_952 (by omega) (by omega) rfl ?_
  have hM := c_X7_told (l := l) (D := D) (cI := cI) (cJ := cJ) (cZ := cZ) (q 13) B_h P_h N_h L_h E_h V_h G_h D_h O_h Z_h R_h I_h (f (i + 1)) (fun (r : Int)  => r = vTold B_h P_h G_h.1 D_h.1 (f (i + 1))) (s_X7_told hI.1 hI.2.1 (hf _) rfl)
  have hps := lw_split (G := (gW cI cJ cZ q S_n T_n U_n S_r T_r U_r G_s P_p I_i S_iw T_iw U_iw G_is I_j S_jw T_jw U_jw G_js R_w OC_o O_o B_h P_h N_h L_h E_h V_h G_h D_h O_h Z_h R_h I_h)) [13] [0, 1, 2, 3, 4, 5, 6, 7, 8, 9, 10, 11, 12] (List.Perm.refl _) (by decide)
  rw [lapp_1 (gW cI cJ cZ q S_n T_n U_n S_r T_r U_r G_s P_p I_i S_iw T_iw U_iw G_is I_j S_jw T_jw U_jw G_js R_w OC_o O_o B_h P_h N_h L_h E_h V_h G_h D_h O_h Z_h R_h I_h) 13, gW_13] at hps
  refine k_callP (wr := lapp (gW cI cJ cZ q S_n T_n U_n S_r T_r U_r G_s P_p I_i S_iw T_iw U_iw G_is I_j S_jw T_jw U_jw G_js R_w OC_o O_o B_h P_h N_h L_h E_h V_h G_h D_h O_h Z_h R_h I_h) [0, 1, 2, 3, 4, 5, 6, 7, 8, 9, 10, 11, 12]) C dL_law_953 hM gL_law_X7_told rfl sg_X7_told 7 rfl rfl rfl (Nat.le_of_ble_eq_true rfl) ⟨⟨rfl, rfl⟩, Nat.le_of_ble_eq_true rfl, Nat.le_of_ble_eq_true rfl⟩ hcs hps cs sl ⟨rfl, rfl⟩ 956 rfl (fun v w1 hq => ?_)
  obtain ⟨r2, rfl, rfl, hm⟩ := hq
  have hpj2 := lw_join (G := (gW cI cJ cZ q S_n T_n U_n S_r T_r U_r G_s P_p I_i S_iw T_iw U_iw G_is I_j S_jw T_jw U_jw G_js R_w OC_o O_o B_h P_h N_h L_h E_h V_h G_h D_h O_h Z_h R_h I_h)) [0, 1, 2, 3, 4, 5, 6, 7, 8, 9, 10, 11, 12] [13] (by decide)
  rw [lapp_agr (G := (gW cI cJ cZ q S_n T_n U_n S_r T_r U_r G_s P_p I_i S_iw T_iw U_iw G_is I_j S_jw T_jw U_jw G_js R_w OC_o O_o B_h P_h N_h L_h E_h V_h G_h D_h O_h Z_h R_h I_h)) (G' := (gW cI cJ cZ q S_n T_n U_n S_r T_r U_r G_s P_p I_i S_iw T_iw U_iw G_is I_j S_jw T_jw U_jw G_js R_w OC_o O_o B_h P_h N_h L_h E_h V_h G_h D_h O_h Z_h R_h I_h)) [0, 1, 2, 3, 4, 5, 6, 7, 8, 9, 10, 11, 12] ⟨rfl, rfl, rfl, rfl, rfl, rfl, rfl, rfl, rfl, rfl, rfl, rfl, rfl, trivial⟩, lapp_1 (gW cI cJ cZ q S_n T_n U_n S_r T_r U_r G_s P_p I_i S_iw T_iw U_iw G_is I_j S_jw T_jw U_jw G_js R_w OC_o O_o B_h P_h N_h L_h E_h V_h G_h D_h O_h Z_h R_h I_h) 13, gW_13] at hpj2
  refine k_permP (ws' := gall (gW cI cJ cZ q S_n T_n U_n S_r T_r U_r G_s P_p I_i S_iw T_iw U_iw G_is I_j S_jw T_jw U_jw G_js R_w OC_o O_o B_h P_h N_h L_h E_h V_h G_h D_h O_h Z_h R_h I_h)) C hpj2 ?_
  refine k_st (K := K) [.int (iI r2), .int (iI r)] _ rfl rfl ?_
  subst hc
  subst hm
  exact k_icmp_same C dL_law_956 961 (by decide) (nx _ ⟨S_n, T_n, U_n, S_r, T_r, U_r, G_s, P_p, I_i, S_iw, T_iw, U_iw, G_is, I_j, S_jw, T_jw, U_jw, G_js, R_w, OC_o, O_o, B_h, P_h, N_h, L_h, E_h, V_h, G_h, D_h, O_h, Z_h, R_h, I_h, List.Perm.refl _, hI, hZ, hS, hT, hG, hP, hN, hi, hj⟩)
