/-! the law: a step for each call (1) -/
set_option maxHeartbeats 4000000 in
set_option maxRecDepth 20000 in
theorem lst_wall {D : va_G} {A : Nat → Prop} {l : Launch} {K : KT} {cI cJ cZ : ClassId} {q : Nat → Nat → Nat} {b cs sl : Nat} {f : Int → Int} {Ln i : Int} {ws : va_W} (C : KC cL_law RL wsL_law room_1 4 D (kT cI cJ cZ) A l false (fun _ _ => False) 0 0 K) (sld : ∀ {pc n : Nat} {lv : List (Nat × Value)} {st : List Value} {ws : va_W} {i : Int}, decode cL_law pc = .ok (.iaload, 1) → 0 ≤ i → i < Ln → pc + 1 = n → K cs sl n lv (.int (iI (f i)) :: st) ws → K cs sl pc lv (.int (iI i) :: .ref b :: st) ws) (hf : ∀ k, rI (f k)) (hcs : cs + 0 ≤ room_1.cells ∧ sl + 0 ≤ room_1.slots) (i0 : 0 ≤ i) (i1 : i + 4 < Ln) (hR : LRel cI cJ cZ q ws) (nx : ∀ ws', LRel cI cJ cZ q ws' → K cs sl 961 [(3, .int (iI i)), (2, .ref (q 13 0)), (1, .ref (q 0 0)), (0, .ref b)] [] ws') : K cs sl 168 [(3, .int (iI i)), (2, .ref (q 13 0)), (1, .ref (q 0 0)), (0, .ref b)] [] ws := by
  obtain ⟨S_n, T_n, U_n, S_r, T_r, U_r, G_s, P_p, I_i, S_iw, T_iw, U_iw, G_is, I_j, S_jw, T_jw, U_jw, G_js, R_w, OC_o, O_o, B_h, P_h, N_h, L_h, E_h, V_h, G_h, D_h, O_h, Z_h, R_h, I_h, hp, hI, hZ, hS, hT, hG, hP, hN, hi, hj⟩ := hR
  refine k_aload_n C dL_law_168 2 rfl rfl 169 rfl ?_
  refine k_aload_n C dL_law_169 3 rfl rfl 170 rfl ?_
  refine k_iload_n C dL_law_170 0 rfl rfl 171 rfl ?_
  refine k_iconst C dL_law_171 172 rfl ?_
  refine k_iadd C dL_law_172 173 rfl ?_
  refine sld dL_law_173 (by omega) (by omega) rfl ?_
  have hM := c_X6_wall (l := l) (D := D) (cI := cI) (cJ := cJ) (cZ := cZ) (q 0) (q 1) (q 2) (q 3) (q 4) (q 5) (q 8) (q 11) (q 12) S_n T_n U_n G_s (f (i + 1)) (fun (r : Int) (S_n' : gWS) (T_n' : gWT) (G_s' : gGG) => r = vWall B_h (f (i + 1)) ∧ (2 ≤ (f (i + 1)) ∧ (f (i + 1)) ≤ 9 → (∀ N' : gMN, (∀ g, 0 ≤ g → g < 10 → N'.1 g = -6 ∧ N'.2 g = -6) → SR ((f (i + 1)), 0, B_h.2.2.1, B_h.2.2.2.1, B_h.2.2.2.2) S_n' ∧ TR ((f (i + 1)), 0, B_h.2.2.1, B_h.2.2.2.1, B_h.2.2.2.2) N' T_n') ∧ G_s' = (0, G_s.2.1, G_s.2.2)) ∧ (¬ (2 ≤ (f (i + 1)) ∧ (f (i + 1)) ≤ 9) → S_n' = S_n ∧ T_n' = T_n ∧ G_s' = G_s)) (s_wall (N := P_h) hI.1 hS (hf _) (fun z S' T' h => ⟨rfl, fun _ => ⟨h, rfl⟩, fun q => absurd z q⟩) (fun z => ⟨rfl, fun q => absurd q z, fun _ => ⟨rfl, rfl, rfl⟩⟩))
  have hps := lw_split (G := (gW cI cJ cZ q S_n T_n U_n S_r T_r U_r G_s P_p I_i S_iw T_iw U_iw G_is I_j S_jw T_jw U_jw G_js R_w OC_o O_o B_h P_h N_h L_h E_h V_h G_h D_h O_h Z_h R_h I_h)) [0, 1, 3] [2, 4, 5, 6, 7, 8, 9, 10, 11, 12, 13] hp (by decide)
  rw [lapp_3 (gW cI cJ cZ q S_n T_n U_n S_r T_r U_r G_s P_p I_i S_iw T_iw U_iw G_is I_j S_jw T_jw U_jw G_js R_w OC_o O_o B_h P_h N_h L_h E_h V_h G_h D_h O_h Z_h R_h I_h) 0 1 3, gW_0, gW_1, gW_3] at hps
  refine k_callP (wr := lapp (gW cI cJ cZ q S_n T_n U_n S_r T_r U_r G_s P_p I_i S_iw T_iw U_iw G_is I_j S_jw T_jw U_jw G_js R_w OC_o O_o B_h P_h N_h L_h E_h V_h G_h D_h O_h Z_h R_h I_h) [2, 4, 5, 6, 7, 8, 9, 10, 11, 12, 13]) C dL_law_174 hM gL_law_X6_wall rfl sg_X6_wall 6 rfl rfl rfl (Nat.le_of_ble_eq_true rfl) ⟨⟨rfl, rfl⟩, Nat.le_of_ble_eq_true rfl, Nat.le_of_ble_eq_true rfl⟩ hcs hps cs sl ⟨rfl, rfl⟩ 177 rfl (fun v w1 hq => ?_)
  obtain ⟨r, S_n', T_n', G_s', rfl, rfl, hc⟩ := hq
  have hpj := lw_join (G := (gW cI cJ cZ q S_n' T_n' U_n S_r T_r U_r G_s' P_p I_i S_iw T_iw U_iw G_is I_j S_jw T_jw U_jw G_js R_w OC_o O_o B_h P_h N_h L_h E_h V_h G_h D_h O_h Z_h R_h I_h)) [2, 4, 5, 6, 7, 8, 9, 10, 11, 12, 13] [0, 1, 3] (by decide)
  rw [lapp_agr (G := (gW cI cJ cZ q S_n' T_n' U_n S_r T_r U_r G_s' P_p I_i S_iw T_iw U_iw G_is I_j S_jw T_jw U_jw G_js R_w OC_o O_o B_h P_h N_h L_h E_h V_h G_h D_h O_h Z_h R_h I_h)) (G' := (gW cI cJ cZ q S_n T_n U_n S_r T_r U_r G_s P_p I_i S_iw T_iw U_iw G_is I_j S_jw T_jw U_jw G_js R_w OC_o O_o B_h P_h N_h L_h E_h V_h G_h D_h O_h Z_h R_h I_h)) [2, 4, 5, 6, 7, 8, 9, 10, 11, 12, 13] ⟨rfl, rfl, rfl, rfl, rfl, rfl, rfl, rfl, rfl, rfl, rfl, trivial⟩, lapp_3 (gW cI cJ cZ q S_n' T_n' U_n S_r T_r U_r G_s' P_p I_i S_iw T_iw U_iw G_is I_j S_jw T_jw U_jw G_js R_w OC_o O_o B_h P_h N_h L_h E_h V_h G_h D_h O_h Z_h R_h I_h) 0 1 3, gW_0, gW_1, gW_3] at hpj
  refine k_permP (ws' := gall (gW cI cJ cZ q S_n' T_n' U_n S_r T_r U_r G_s' P_p I_i S_iw T_iw U_iw G_is I_j S_jw T_jw U_jw G_js R_w OC_o O_o B_h P_h N_h L_h E_h V_h G_h D_h O_h Z_h R_h I_h)) C hpj ?_
  refine k_st (K := K) [.int (iI r)] _ rfl rfl ?_
  refine k_aload_n C dL_law_177 1 rfl rfl 178 rfl ?_
  refine k_aload_n C dL_law_178 3 rfl rfl 179 rfl ?_
  refine k_iload_n C dL_law_179 0 rfl rfl 180 rfl ?_
  refine k_iconst C dL_law_180 181 rfl ?_
  refine k_iadd C dL_law_181 182 rfl ?_
  refine sld dL_law_182 (by omega) (by omega) rfl ?_
  have hM := c_X7_wall (l := l) (D := D) (cI := cI) (cJ := cJ) (cZ := cZ) (q 13) B_h P_h N_h L_h E_h V_h G_h D_h O_h Z_h R_h I_h (f (i + 1)) (fun (r : Int) (B_h' : gMB) (P_h' : gMP) (G_h' : gMG) => r = vWall B_h (f (i + 1)) ∧ (2 ≤ (f (i + 1)) ∧ (f (i + 1)) ≤ 9 → B_h' = ((f (i + 1)), 0, B_h.2.2.1, B_h.2.2.2.1, B_h.2.2.2.2) ∧ (Z10 P_h'.1 ∧ Z10 P_h'.2) ∧ (∀ g, 0 ≤ g → g < 10 → P_h'.1 g = -6 ∧ P_h'.2 g = -6) ∧ G_h' = (0, G_h.2)) ∧ (¬ (2 ≤ (f (i + 1)) ∧ (f (i + 1)) ≤ 9) → B_h' = B_h ∧ P_h' = P_h ∧ G_h' = G_h)) (s_X7_wall hI.2.1.1 (hf _) (fun z P' h1 h2 => ⟨rfl, fun _ => ⟨rfl, h1, h2, rfl⟩, fun q => absurd z q⟩) (fun z => ⟨rfl, fun q => absurd q z, fun _ => ⟨rfl, rfl, rfl⟩⟩))
  have hps := lw_split (G := (gW cI cJ cZ q S_n' T_n' U_n S_r T_r U_r G_s' P_p I_i S_iw T_iw U_iw G_is I_j S_jw T_jw U_jw G_js R_w OC_o O_o B_h P_h N_h L_h E_h V_h G_h D_h O_h Z_h R_h I_h)) [13] [0, 1, 2, 3, 4, 5, 6, 7, 8, 9, 10, 11, 12] (List.Perm.refl _) (by decide)
  rw [lapp_1 (gW cI cJ cZ q S_n' T_n' U_n S_r T_r U_r G_s' P_p I_i S_iw T_iw U_iw G_is I_j S_jw T_jw U_jw G_js R_w OC_o O_o B_h P_h N_h L_h E_h V_h G_h D_h O_h Z_h R_h I_h) 13, gW_13] at hps
  refine k_callP (wr := lapp (gW cI cJ cZ q S_n' T_n' U_n S_r T_r U_r G_s' P_p I_i S_iw T_iw U_iw G_is I_j S_jw T_jw U_jw G_js R_w OC_o O_o B_h P_h N_h L_h E_h V_h G_h D_h O_h Z_h R_h I_h) [0, 1, 2, 3, 4, 5, 6, 7, 8, 9, 10, 11, 12]) C dL_law_183 hM gL_law_X7_wall rfl sg_X7_wall 7 rfl rfl rfl (Nat.le_of_ble_eq_true rfl) ⟨⟨rfl, rfl⟩, Nat.le_of_ble_eq_true rfl, Nat.le_of_ble_eq_true rfl⟩ hcs hps cs sl ⟨rfl, rfl⟩ 186 rfl (fun v w1 hq => ?_)
  obtain ⟨r2, B_h', P_h', G_h', rfl, rfl, hm⟩ := hq
  have hpj2 := lw_join (G := (gW cI cJ cZ q S_n' T_n' U_n S_r T_r U_r G_s' P_p I_i S_iw T_iw U_iw G_is I_j S_jw T_jw U_jw G_js R_w OC_o O_o B_h' P_h' N_h L_h E_h V_h G_h' D_h O_h Z_h R_h I_h)) [0, 1, 2, 3, 4, 5, 6, 7, 8, 9, 10, 11, 12] [13] (by decide)
  rw [lapp_agr (G := (gW cI cJ cZ q S_n' T_n' U_n S_r T_r U_r G_s' P_p I_i S_iw T_iw U_iw G_is I_j S_jw T_jw U_jw G_js R_w OC_o O_o B_h' P_h' N_h L_h E_h V_h G_h' D_h O_h Z_h R_h I_h)) (G' := (gW cI cJ cZ q S_n' T_n' U_n S_r T_r U_r G_s' P_p I_i S_iw T_iw U_iw G_is I_j S_jw T_jw U_jw G_js R_w OC_o O_o B_h P_h N_h L_h E_h V_h G_h D_h O_h Z_h R_h I_h)) [0, 1, 2, 3, 4, 5, 6, 7, 8, 9, 10, 11, 12] ⟨rfl, rfl, rfl, rfl, rfl, rfl, rfl, rfl, rfl, rfl, rfl, rfl, rfl, trivial⟩, lapp_1 (gW cI cJ cZ q S_n' T_n' U_n S_r T_r U_r G_s' P_p I_i S_iw T_iw U_iw G_is I_j S_jw T_jw U_jw G_js R_w OC_o O_o B_h' P_h' N_h L_h E_h V_h G_h' D_h O_h Z_h R_h I_h) 13, gW_13] at hpj2
  refine k_permP (ws' := gall (gW cI cJ cZ q S_n' T_n' U_n S_r T_r U_r G_s' P_p I_i S_iw T_iw U_iw G_is I_j S_jw T_jw U_jw G_js R_w OC_o O_o B_h' P_h' N_h L_h E_h V_h G_h' D_h O_h Z_h R_h I_h)) C hpj2 ?_
  refine k_st (K := K) [.int (iI r2), .int (iI r)] _ rfl rfl ?_
  obtain ⟨rfl, c1, c0⟩ := hc
  obtain ⟨rfl, m1, m0⟩ := hm
  have hX : Inv B_h' P_h' ∧ BZ B_h' ∧ SR B_h' S_n' ∧ TR B_h' P_h' T_n' ∧ GR B_h'.1 G_s' G_h' := by
    by_cases z : 2 ≤ (f (i + 1)) ∧ (f (i + 1)) ≤ 9
    · obtain ⟨rfl, p1, p2, rfl⟩ := m1 z
      obtain ⟨w2, rfl⟩ := c1 z
      exact ⟨inv_empty (BOk_n hI.1 z) p1 p2, hZ, (w2 _ p2).1, (w2 _ p2).2, GR_0⟩
    · obtain ⟨rfl, rfl, rfl⟩ := m0 z
      obtain ⟨rfl, rfl, rfl⟩ := c0 z
      exact ⟨hI, hZ, hS, hT, hG⟩
  exact k_icmp_same C dL_law_186 961 (by decide) (nx _ ⟨S_n', T_n', U_n, S_r, T_r, U_r, G_s', P_p, I_i, S_iw, T_iw, U_iw, G_is, I_j, S_jw, T_jw, U_jw, G_js, R_w, OC_o, O_o, B_h', P_h', N_h, L_h, E_h, V_h, G_h', D_h, O_h, Z_h, R_h, I_h, List.Perm.refl _, hX.1, hX.2.1, hX.2.2.1, hX.2.2.2.1, hX.2.2.2.2, hP, hN, hi, hj⟩)
set_option maxHeartbeats 4000000 in
set_option maxRecDepth 20000 in
theorem lst_guest {D : va_G} {A : Nat → Prop} {l : Launch} {K : KT} {cI cJ cZ : ClassId} {q : Nat → Nat → Nat} {b cs sl : Nat} {f : Int → Int} {Ln i : Int} {ws : va_W} (C : KC cL_law RL wsL_law room_1 4 D (kT cI cJ cZ) A l false (fun _ _ => False) 0 0 K) (sld : ∀ {pc n : Nat} {lv : List (Nat × Value)} {st : List Value} {ws : va_W} {i : Int}, decode cL_law pc = .ok (.iaload, 1) → 0 ≤ i → i < Ln → pc + 1 = n → K cs sl n lv (.int (iI (f i)) :: st) ws → K cs sl pc lv (.int (iI i) :: .ref b :: st) ws) (hf : ∀ k, rI (f k)) (hcs : cs + 0 ≤ room_1.cells ∧ sl + 0 ≤ room_1.slots) (i0 : 0 ≤ i) (i1 : i + 4 < Ln) (hR : LRel cI cJ cZ q ws) (nx : ∀ ws', LRel cI cJ cZ q ws' → K cs sl 961 [(3, .int (iI i)), (2, .ref (q 13 0)), (1, .ref (q 0 0)), (0, .ref b)] [] ws') : K cs sl 191 [(3, .int (iI i)), (2, .ref (q 13 0)), (1, .ref (q 0 0)), (0, .ref b)] [] ws := by
  obtain ⟨S_n, T_n, U_n, S_r, T_r, U_r, G_s, P_p, I_i, S_iw, T_iw, U_iw, G_is, I_j, S_jw, T_jw, U_jw, G_js, R_w, OC_o, O_o, B_h, P_h, N_h, L_h, E_h, V_h, G_h, D_h, O_h, Z_h, R_h, I_h, hp, hI, hZ, hS, hT, hG, hP, hN, hi, hj⟩ := hR
  refine k_aload_n C dL_law_191 2 rfl rfl 192 rfl ?_
  refine k_aload_n C dL_law_192 3 rfl rfl 193 rfl ?_
  refine k_iload_n C dL_law_193 0 rfl rfl 194 rfl ?_
  refine k_iconst C dL_law_194 195 rfl ?_
  refine k_iadd C dL_law_195 196 rfl ?_
  refine sld dL_law_196 (by omega) (by omega) rfl ?_
  refine k_aload_n C dL_law_197 3 rfl rfl 198 rfl ?_
  refine k_iload_n C dL_law_198 0 rfl rfl 199 rfl ?_
  refine k_iconst C dL_law_199 200 rfl ?_
  refine k_iadd C dL_law_200 201 rfl ?_
  refine sld dL_law_201 (by omega) (by omega) rfl ?_
  refine k_aload_n C dL_law_202 3 rfl rfl 203 rfl ?_
  refine k_iload_n C dL_law_203 0 rfl rfl 204 rfl ?_
  refine k_iconst C dL_law_204 205 rfl ?_
  refine k_iadd C dL_law_205 206 rfl ?_
  refine sld dL_law_206 (by omega) (by omega) rfl ?_
  refine k_aload_n C dL_law_207 3 rfl rfl 208 rfl ?_
  refine k_iload_n C dL_law_208 0 rfl rfl 209 rfl ?_
  refine k_iconst C dL_law_209 210 rfl ?_
  refine k_iadd C dL_law_210 211 rfl ?_
  refine sld dL_law_211 (by omega) (by omega) rfl ?_
  have hM := c_X6_guest (l := l) (D := D) (cI := cI) (cJ := cJ) (cZ := cZ) (q 0) (q 1) (q 2) (q 3) (q 4) (q 5) (q 8) (q 11) (q 12) S_n T_n U_n (f (i + 1)) (f (i + 2)) (f (i + 3)) (f (i + 4)) (fun (r : Int) (S_n' : gWS) => r = vGuest B_h P_h (f (i + 1)) (f (i + 2)) (f (i + 3)) (f (i + 4)) ∧ (((0 ≤ (f (i + 1)) ∧ (f (i + 1)) < 10) ∧ ((1 ≤ (f (i + 2)) ∧ (f (i + 2)) ≤ 3) ∧ (1 ≤ (f (i + 3)) ∧ (f (i + 3)) ≤ 20) ∧ (0 ≤ (f (i + 4)) ∧ (f (i + 4)) ≤ 200)) ∧ P_h.1 (f (i + 1)) < 0) → SR (bgive B_h (f (i + 1)) (f (i + 2)) (f (i + 3)) (f (i + 4))) S_n') ∧ (¬ ((0 ≤ (f (i + 1)) ∧ (f (i + 1)) < 10) ∧ ((1 ≤ (f (i + 2)) ∧ (f (i + 2)) ≤ 3) ∧ (1 ≤ (f (i + 3)) ∧ (f (i + 3)) ≤ 20) ∧ (0 ≤ (f (i + 4)) ∧ (f (i + 4)) ≤ 200)) ∧ P_h.1 (f (i + 1)) < 0) → S_n' = S_n)) (s_guest hI hS hT (hf _) (hf _) (hf _) (hf _) (fun _ z1 z2 z3 S' h => ⟨rfl, fun _ => h, fun q => absurd ⟨z1, z2, z3⟩ q⟩) (fun z => ⟨rfl, fun q => absurd q z, fun _ => rfl⟩))
  have hps := lw_split (G := (gW cI cJ cZ q S_n T_n U_n S_r T_r U_r G_s P_p I_i S_iw T_iw U_iw G_is I_j S_jw T_jw U_jw G_js R_w OC_o O_o B_h P_h N_h L_h E_h V_h G_h D_h O_h Z_h R_h I_h)) [0, 1] [2, 3, 4, 5, 6, 7, 8, 9, 10, 11, 12, 13] hp (by decide)
  rw [lapp_2 (gW cI cJ cZ q S_n T_n U_n S_r T_r U_r G_s P_p I_i S_iw T_iw U_iw G_is I_j S_jw T_jw U_jw G_js R_w OC_o O_o B_h P_h N_h L_h E_h V_h G_h D_h O_h Z_h R_h I_h) 0 1, gW_0, gW_1] at hps
  refine k_callP (wr := lapp (gW cI cJ cZ q S_n T_n U_n S_r T_r U_r G_s P_p I_i S_iw T_iw U_iw G_is I_j S_jw T_jw U_jw G_js R_w OC_o O_o B_h P_h N_h L_h E_h V_h G_h D_h O_h Z_h R_h I_h) [2, 3, 4, 5, 6, 7, 8, 9, 10, 11, 12, 13]) C dL_law_212 hM gL_law_X6_guest rfl sg_X6_guest 6 rfl rfl rfl (Nat.le_of_ble_eq_true rfl) ⟨⟨rfl, rfl⟩, Nat.le_of_ble_eq_true rfl, Nat.le_of_ble_eq_true rfl⟩ hcs hps cs sl ⟨rfl, rfl⟩ 215 rfl (fun v w1 hq => ?_)
  obtain ⟨r, S_n', rfl, rfl, hc⟩ := hq
  have hpj := lw_join (G := (gW cI cJ cZ q S_n' T_n U_n S_r T_r U_r G_s P_p I_i S_iw T_iw U_iw G_is I_j S_jw T_jw U_jw G_js R_w OC_o O_o B_h P_h N_h L_h E_h V_h G_h D_h O_h Z_h R_h I_h)) [2, 3, 4, 5, 6, 7, 8, 9, 10, 11, 12, 13] [0, 1] (by decide)
  rw [lapp_agr (G := (gW cI cJ cZ q S_n' T_n U_n S_r T_r U_r G_s P_p I_i S_iw T_iw U_iw G_is I_j S_jw T_jw U_jw G_js R_w OC_o O_o B_h P_h N_h L_h E_h V_h G_h D_h O_h Z_h R_h I_h)) (G' := (gW cI cJ cZ q S_n T_n U_n S_r T_r U_r G_s P_p I_i S_iw T_iw U_iw G_is I_j S_jw T_jw U_jw G_js R_w OC_o O_o B_h P_h N_h L_h E_h V_h G_h D_h O_h Z_h R_h I_h)) [2, 3, 4, 5, 6, 7, 8, 9, 10, 11, 12, 13] ⟨rfl, rfl, rfl, rfl, rfl, rfl, rfl, rfl, rfl, rfl, rfl, rfl, trivial⟩, lapp_2 (gW cI cJ cZ q S_n' T_n U_n S_r T_r U_r G_s P_p I_i S_iw T_iw U_iw G_is I_j S_jw T_jw U_jw G_js R_w OC_o O_o B_h P_h N_h L_h E_h V_h G_h D_h O_h Z_h R_h I_h) 0 1, gW_0, gW_1] at hpj
  refine k_permP (ws' := gall (gW cI cJ cZ q S_n' T_n U_n S_r T_r U_r G_s P_p I_i S_iw T_iw U_iw G_is I_j S_jw T_jw U_jw G_js R_w OC_o O_o B_h P_h N_h L_h E_h V_h G_h D_h O_h Z_h R_h I_h)) C hpj ?_
  refine k_st (K := K) [.int (iI r)] _ rfl rfl ?_
  refine k_aload_n C dL_law_215 1 rfl rfl 216 rfl ?_
  refine k_aload_n C dL_law_216 3 rfl rfl 217 rfl ?_
  refine k_iload_n C dL_law_217 0 rfl rfl 218 rfl ?_
  refine k_iconst C dL_law_218 219 rfl ?_
  refine k_iadd C dL_law_219 220 rfl ?_
  refine sld dL_law_220 (by omega) (by omega) rfl ?_
  refine k_aload_n C dL_law_221 3 rfl rfl 222 rfl ?_
  refine k_iload_n C dL_law_222 0 rfl rfl 223 rfl ?_
  refine k_iconst C dL_law_223 224 rfl ?_
  refine k_iadd C dL_law_224 225 rfl ?_
  refine sld dL_law_225 (by omega) (by omega) rfl ?_
  refine k_aload_n C dL_law_226 3 rfl rfl 227 rfl ?_
  refine k_iload_n C dL_law_227 0 rfl rfl 228 rfl ?_
  refine k_iconst C dL_law_228 229 rfl ?_
  refine k_iadd C dL_law_229 230 rfl ?_
  refine sld dL_law_230 (by omega) (by omega) rfl ?_
  refine k_aload_n C dL_law_231 3 rfl rfl 232 rfl ?_
  refine k_iload_n C dL_law_232 0 rfl rfl 233 rfl ?_
  refine k_iconst C dL_law_233 234 rfl ?_
  refine k_iadd C dL_law_234 235 rfl ?_
  refine sld dL_law_235 (by omega) (by omega) rfl ?_
  have hM := c_X7_guest (l := l) (D := D) (cI := cI) (cJ := cJ) (cZ := cZ) (q 13) B_h P_h N_h L_h E_h V_h G_h D_h O_h Z_h R_h I_h (f (i + 1)) (f (i + 2)) (f (i + 3)) (f (i + 4)) (fun (r : Int) (B_h' : gMB) => r = vGuest B_h P_h (f (i + 1)) (f (i + 2)) (f (i + 3)) (f (i + 4)) ∧ (((0 ≤ (f (i + 1)) ∧ (f (i + 1)) < 10) ∧ ((1 ≤ (f (i + 2)) ∧ (f (i + 2)) ≤ 3) ∧ (1 ≤ (f (i + 3)) ∧ (f (i + 3)) ≤ 20) ∧ (0 ≤ (f (i + 4)) ∧ (f (i + 4)) ≤ 200)) ∧ P_h.1 (f (i + 1)) < 0) → B_h' = bgive B_h (f (i + 1)) (f (i + 2)) (f (i + 3)) (f (i + 4))) ∧ (¬ ((0 ≤ (f (i + 1)) ∧ (f (i + 1)) < 10) ∧ ((1 ≤ (f (i + 2)) ∧ (f (i + 2)) ≤ 3) ∧ (1 ≤ (f (i + 3)) ∧ (f (i + 3)) ≤ 20) ∧ (0 ≤ (f (i + 4)) ∧ (f (i + 4)) ≤ 200)) ∧ P_h.1 (f (i + 1)) < 0) → B_h' = B_h)) (s_X7_guest hI (hf _) (hf _) (hf _) (hf _) (fun z1 z2 z3 => ⟨rfl, fun _ => rfl, fun q => absurd ⟨z1, z2, z3⟩ q⟩) (fun z => ⟨rfl, fun q => absurd q z, fun _ => rfl⟩))
  have hps := lw_split (G := (gW cI cJ cZ q S_n' T_n U_n S_r T_r U_r G_s P_p I_i S_iw T_iw U_iw G_is I_j S_jw T_jw U_jw G_js R_w OC_o O_o B_h P_h N_h L_h E_h V_h G_h D_h O_h Z_h R_h I_h)) [13] [0, 1, 2, 3, 4, 5, 6, 7, 8, 9, 10, 11, 12] (List.Perm.refl _) (by decide)
  rw [lapp_1 (gW cI cJ cZ q S_n' T_n U_n S_r T_r U_r G_s P_p I_i S_iw T_iw U_iw G_is I_j S_jw T_jw U_jw G_js R_w OC_o O_o B_h P_h N_h L_h E_h V_h G_h D_h O_h Z_h R_h I_h) 13, gW_13] at hps
  refine k_callP (wr := lapp (gW cI cJ cZ q S_n' T_n U_n S_r T_r U_r G_s P_p I_i S_iw T_iw U_iw G_is I_j S_jw T_jw U_jw G_js R_w OC_o O_o B_h P_h N_h L_h E_h V_h G_h D_h O_h Z_h R_h I_h) [0, 1, 2, 3, 4, 5, 6, 7, 8, 9, 10, 11, 12]) C dL_law_236 hM gL_law_X7_guest rfl sg_X7_guest 7 rfl rfl rfl (Nat.le_of_ble_eq_true rfl) ⟨⟨rfl, rfl⟩, Nat.le_of_ble_eq_true rfl, Nat.le_of_ble_eq_true rfl⟩ hcs hps cs sl ⟨rfl, rfl⟩ 239 rfl (fun v w1 hq => ?_)
  obtain ⟨r2, B_h', rfl, rfl, hm⟩ := hq
  have hpj2 := lw_join (G := (gW cI cJ cZ q S_n' T_n U_n S_r T_r U_r G_s P_p I_i S_iw T_iw U_iw G_is I_j S_jw T_jw U_jw G_js R_w OC_o O_o B_h' P_h N_h L_h E_h V_h G_h D_h O_h Z_h R_h I_h)) [0, 1, 2, 3, 4, 5, 6, 7, 8, 9, 10, 11, 12] [13] (by decide)
  rw [lapp_agr (G := (gW cI cJ cZ q S_n' T_n U_n S_r T_r U_r G_s P_p I_i S_iw T_iw U_iw G_is I_j S_jw T_jw U_jw G_js R_w OC_o O_o B_h' P_h N_h L_h E_h V_h G_h D_h O_h Z_h R_h I_h)) (G' := (gW cI cJ cZ q S_n' T_n U_n S_r T_r U_r G_s P_p I_i S_iw T_iw U_iw G_is I_j S_jw T_jw U_jw G_js R_w OC_o O_o B_h P_h N_h L_h E_h V_h G_h D_h O_h Z_h R_h I_h)) [0, 1, 2, 3, 4, 5, 6, 7, 8, 9, 10, 11, 12] ⟨rfl, rfl, rfl, rfl, rfl, rfl, rfl, rfl, rfl, rfl, rfl, rfl, rfl, trivial⟩, lapp_1 (gW cI cJ cZ q S_n' T_n U_n S_r T_r U_r G_s P_p I_i S_iw T_iw U_iw G_is I_j S_jw T_jw U_jw G_js R_w OC_o O_o B_h' P_h N_h L_h E_h V_h G_h D_h O_h Z_h R_h I_h) 13, gW_13] at hpj2
  refine k_permP (ws' := gall (gW cI cJ cZ q S_n' T_n U_n S_r T_r U_r G_s P_p I_i S_iw T_iw U_iw G_is I_j S_jw T_jw U_jw G_js R_w OC_o O_o B_h' P_h N_h L_h E_h V_h G_h D_h O_h Z_h R_h I_h)) C hpj2 ?_
  refine k_st (K := K) [.int (iI r2), .int (iI r)] _ rfl rfl ?_
  obtain ⟨rfl, c1, c0⟩ := hc
  obtain ⟨rfl, m1, m0⟩ := hm
  have hX : Inv B_h' P_h ∧ BZ B_h' ∧ SR B_h' S_n' ∧ TR B_h' P_h T_n ∧ GR B_h'.1 G_s G_h := by
    by_cases z : (0 ≤ (f (i + 1)) ∧ (f (i + 1)) < 10) ∧ ((1 ≤ (f (i + 2)) ∧ (f (i + 2)) ≤ 3) ∧ (1 ≤ (f (i + 3)) ∧ (f (i + 3)) ≤ 20) ∧ (0 ≤ (f (i + 4)) ∧ (f (i + 4)) ≤ 200)) ∧ P_h.1 (f (i + 1)) < 0
    · have c1 := c1 z
      obtain rfl := m1 z
      obtain ⟨z1, ⟨z2, z3, z4⟩, z5⟩ := z
      exact ⟨inv_give hI z1.1 z1.2 z2 z3 z4 z5, ⟨z10_set hZ.1 z1, z10_set hZ.2.1 z1, z10_set hZ.2.2 z1⟩, c1, TR_give hT z5, hG⟩
    · obtain rfl := m0 z
      obtain rfl := c0 z
      exact ⟨hI, hZ, hS, hT, hG⟩
  exact k_icmp_same C dL_law_239 961 (by decide) (nx _ ⟨S_n', T_n, U_n, S_r, T_r, U_r, G_s, P_p, I_i, S_iw, T_iw, U_iw, G_is, I_j, S_jw, T_jw, U_jw, G_js, R_w, OC_o, O_o, B_h', P_h, N_h, L_h, E_h, V_h, G_h, D_h, O_h, Z_h, R_h, I_h, List.Perm.refl _, hX.1, hX.2.1, hX.2.2.1, hX.2.2.2.1, hX.2.2.2.2, hP, hN, hi, hj⟩)
set_option maxHeartbeats 4000000 in
set_option maxRecDepth 20000 in
theorem lst_say {D : va_G} {A : Nat → Prop} {l : Launch} {K : KT} {cI cJ cZ : ClassId} {q : Nat → Nat → Nat} {b cs sl : Nat} {f : Int → Int} {Ln i : Int} {ws : va_W} (C : KC cL_law RL wsL_law room_1 4 D (kT cI cJ cZ) A l false (fun _ _ => False) 0 0 K) (sld : ∀ {pc n : Nat} {lv : List (Nat × Value)} {st : List Value} {ws : va_W} {i : Int}, decode cL_law pc = .ok (.iaload, 1) → 0 ≤ i → i < Ln → pc + 1 = n → K cs sl n lv (.int (iI (f i)) :: st) ws → K cs sl pc lv (.int (iI i) :: .ref b :: st) ws) (hf : ∀ k, rI (f k)) (hcs : cs + 0 ≤ room_1.cells ∧ sl + 0 ≤ room_1.slots) (i0 : 0 ≤ i) (i1 : i + 4 < Ln) (hR : LRel cI cJ cZ q ws) (nx : ∀ ws', LRel cI cJ cZ q ws' → K cs sl 961 [(3, .int (iI i)), (2, .ref (q 13 0)), (1, .ref (q 0 0)), (0, .ref b)] [] ws') : K cs sl 244 [(3, .int (iI i)), (2, .ref (q 13 0)), (1, .ref (q 0 0)), (0, .ref b)] [] ws := by
  obtain ⟨S_n, T_n, U_n, S_r, T_r, U_r, G_s, P_p, I_i, S_iw, T_iw, U_iw, G_is, I_j, S_jw, T_jw, U_jw, G_js, R_w, OC_o, O_o, B_h, P_h, N_h, L_h, E_h, V_h, G_h, D_h, O_h, Z_h, R_h, I_h, hp, hI, hZ, hS, hT, hG, hP, hN, hi, hj⟩ := hR
  refine k_aload_n C dL_law_244 2 rfl rfl 245 rfl ?_
  refine k_aload_n C dL_law_245 3 rfl rfl 246 rfl ?_
  refine k_iload_n C dL_law_246 0 rfl rfl 247 rfl ?_
  refine k_iconst C dL_law_247 248 rfl ?_
  refine k_iadd C dL_law_248 249 rfl ?_
  refine sld dL_law_249 (by omega) (by omega) rfl ?_
  have hM := c_X6_say (l := l) (D := D) (cI := cI) (cJ := cJ) (cZ := cZ) (q 0) (q 1) (q 2) (q 3) (q 4) (q 5) (q 8) (q 11) (q 12) P_p (f (i + 1)) (fun (r : Int) (P_p' : gPP) => r = vSay D_h (f (i + 1)) ∧ ((33 ≤ (f (i + 1)) ∧ (f (i + 1)) ≤ 126) ∧ D_h.1 < 60 → PadR P_p' (D_h.1 + 1, aset D_h.2 D_h.1 (f (i + 1)))) ∧ (¬ ((33 ≤ (f (i + 1)) ∧ (f (i + 1)) ≤ 126) ∧ D_h.1 < 60) → P_p' = P_p)) (s_say hP (hf _) (fun z1 z2 P' h => ⟨rfl, fun _ => h, fun q => absurd ⟨z1, z2⟩ q⟩) (fun z => ⟨rfl, fun q => absurd q z, fun _ => rfl⟩))
  have hps := lw_split (G := (gW cI cJ cZ q S_n T_n U_n S_r T_r U_r G_s P_p I_i S_iw T_iw U_iw G_is I_j S_jw T_jw U_jw G_js R_w OC_o O_o B_h P_h N_h L_h E_h V_h G_h D_h O_h Z_h R_h I_h)) [0, 4] [1, 2, 3, 5, 6, 7, 8, 9, 10, 11, 12, 13] hp (by decide)
  rw [lapp_2 (gW cI cJ cZ q S_n T_n U_n S_r T_r U_r G_s P_p I_i S_iw T_iw U_iw G_is I_j S_jw T_jw U_jw G_js R_w OC_o O_o B_h P_h N_h L_h E_h V_h G_h D_h O_h Z_h R_h I_h) 0 4, gW_0, gW_4] at hps
  refine k_callP (wr := lapp (gW cI cJ cZ q S_n T_n U_n S_r T_r U_r G_s P_p I_i S_iw T_iw U_iw G_is I_j S_jw T_jw U_jw G_js R_w OC_o O_o B_h P_h N_h L_h E_h V_h G_h D_h O_h Z_h R_h I_h) [1, 2, 3, 5, 6, 7, 8, 9, 10, 11, 12, 13]) C dL_law_250 hM gL_law_X6_say rfl sg_X6_say 6 rfl rfl rfl (Nat.le_of_ble_eq_true rfl) ⟨⟨rfl, rfl⟩, Nat.le_of_ble_eq_true rfl, Nat.le_of_ble_eq_true rfl⟩ hcs hps cs sl ⟨rfl, rfl⟩ 253 rfl (fun v w1 hq => ?_)
  obtain ⟨r, P_p', rfl, rfl, hc⟩ := hq
  have hpj := lw_join (G := (gW cI cJ cZ q S_n T_n U_n S_r T_r U_r G_s P_p' I_i S_iw T_iw U_iw G_is I_j S_jw T_jw U_jw G_js R_w OC_o O_o B_h P_h N_h L_h E_h V_h G_h D_h O_h Z_h R_h I_h)) [1, 2, 3, 5, 6, 7, 8, 9, 10, 11, 12, 13] [0, 4] (by decide)
  rw [lapp_agr (G := (gW cI cJ cZ q S_n T_n U_n S_r T_r U_r G_s P_p' I_i S_iw T_iw U_iw G_is I_j S_jw T_jw U_jw G_js R_w OC_o O_o B_h P_h N_h L_h E_h V_h G_h D_h O_h Z_h R_h I_h)) (G' := (gW cI cJ cZ q S_n T_n U_n S_r T_r U_r G_s P_p I_i S_iw T_iw U_iw G_is I_j S_jw T_jw U_jw G_js R_w OC_o O_o B_h P_h N_h L_h E_h V_h G_h D_h O_h Z_h R_h I_h)) [1, 2, 3, 5, 6, 7, 8, 9, 10, 11, 12, 13] ⟨rfl, rfl, rfl, rfl, rfl, rfl, rfl, rfl, rfl, rfl, rfl, rfl, trivial⟩, lapp_2 (gW cI cJ cZ q S_n T_n U_n S_r T_r U_r G_s P_p' I_i S_iw T_iw U_iw G_is I_j S_jw T_jw U_jw G_js R_w OC_o O_o B_h P_h N_h L_h E_h V_h G_h D_h O_h Z_h R_h I_h) 0 4, gW_0, gW_4] at hpj
  refine k_permP (ws' := gall (gW cI cJ cZ q S_n T_n U_n S_r T_r U_r G_s P_p' I_i S_iw T_iw U_iw G_is I_j S_jw T_jw U_jw G_js R_w OC_o O_o B_h P_h N_h L_h E_h V_h G_h D_h O_h Z_h R_h I_h)) C hpj ?_
  refine k_st (K := K) [.int (iI r)] _ rfl rfl ?_
  refine k_aload_n C dL_law_253 1 rfl rfl 254 rfl ?_
  refine k_aload_n C dL_law_254 3 rfl rfl 255 rfl ?_
  refine k_iload_n C dL_law_255 0 rfl rfl 256 rfl ?_
  refine k_iconst C dL_law_256 257 rfl ?_
  refine k_iadd C dL_law_257 258 rfl ?_
  refine sld dL_law_258 (by omega) (by omega) rfl ?_
  have hM := c_X7_say (l := l) (D := D) (cI := cI) (cJ := cJ) (cZ := cZ) (q 13) B_h P_h N_h L_h E_h V_h G_h D_h O_h Z_h R_h I_h (f (i + 1)) (fun (r : Int) (D_h' : gMD) => r = vSay D_h (f (i + 1)) ∧ ((33 ≤ (f (i + 1)) ∧ (f (i + 1)) ≤ 126) ∧ D_h.1 < 60 → D_h' = (D_h.1 + 1, aset D_h.2 D_h.1 (f (i + 1)))) ∧ (¬ ((33 ≤ (f (i + 1)) ∧ (f (i + 1)) ≤ 126) ∧ D_h.1 < 60) → D_h' = D_h)) (s_X7_say hP.2.1 (hf _) (fun z1 z2 => ⟨rfl, fun _ => rfl, fun q => absurd ⟨z1, z2⟩ q⟩) (fun z => ⟨rfl, fun q => absurd q z, fun _ => rfl⟩))
  have hps := lw_split (G := (gW cI cJ cZ q S_n T_n U_n S_r T_r U_r G_s P_p' I_i S_iw T_iw U_iw G_is I_j S_jw T_jw U_jw G_js R_w OC_o O_o B_h P_h N_h L_h E_h V_h G_h D_h O_h Z_h R_h I_h)) [13] [0, 1, 2, 3, 4, 5, 6, 7, 8, 9, 10, 11, 12] (List.Perm.refl _) (by decide)
  rw [lapp_1 (gW cI cJ cZ q S_n T_n U_n S_r T_r U_r G_s P_p' I_i S_iw T_iw U_iw G_is I_j S_jw T_jw U_jw G_js R_w OC_o O_o B_h P_h N_h L_h E_h V_h G_h D_h O_h Z_h R_h I_h) 13, gW_13] at hps
  refine k_callP (wr := lapp (gW cI cJ cZ q S_n T_n U_n S_r T_r U_r G_s P_p' I_i S_iw T_iw U_iw G_is I_j S_jw T_jw U_jw G_js R_w OC_o O_o B_h P_h N_h L_h E_h V_h G_h D_h O_h Z_h R_h I_h) [0, 1, 2, 3, 4, 5, 6, 7, 8, 9, 10, 11, 12]) C dL_law_259 hM gL_law_X7_say rfl sg_X7_say 7 rfl rfl rfl (Nat.le_of_ble_eq_true rfl) ⟨⟨rfl, rfl⟩, Nat.le_of_ble_eq_true rfl, Nat.le_of_ble_eq_true rfl⟩ hcs hps cs sl ⟨rfl, rfl⟩ 262 rfl (fun v w1 hq => ?_)
  obtain ⟨r2, D_h', rfl, rfl, hm⟩ := hq
  have hpj2 := lw_join (G := (gW cI cJ cZ q S_n T_n U_n S_r T_r U_r G_s P_p' I_i S_iw T_iw U_iw G_is I_j S_jw T_jw U_jw G_js R_w OC_o O_o B_h P_h N_h L_h E_h V_h G_h D_h' O_h Z_h R_h I_h)) [0, 1, 2, 3, 4, 5, 6, 7, 8, 9, 10, 11, 12] [13] (by decide)
  rw [lapp_agr (G := (gW cI cJ cZ q S_n T_n U_n S_r T_r U_r G_s P_p' I_i S_iw T_iw U_iw G_is I_j S_jw T_jw U_jw G_js R_w OC_o O_o B_h P_h N_h L_h E_h V_h G_h D_h' O_h Z_h R_h I_h)) (G' := (gW cI cJ cZ q S_n T_n U_n S_r T_r U_r G_s P_p' I_i S_iw T_iw U_iw G_is I_j S_jw T_jw U_jw G_js R_w OC_o O_o B_h P_h N_h L_h E_h V_h G_h D_h O_h Z_h R_h I_h)) [0, 1, 2, 3, 4, 5, 6, 7, 8, 9, 10, 11, 12] ⟨rfl, rfl, rfl, rfl, rfl, rfl, rfl, rfl, rfl, rfl, rfl, rfl, rfl, trivial⟩, lapp_1 (gW cI cJ cZ q S_n T_n U_n S_r T_r U_r G_s P_p' I_i S_iw T_iw U_iw G_is I_j S_jw T_jw U_jw G_js R_w OC_o O_o B_h P_h N_h L_h E_h V_h G_h D_h' O_h Z_h R_h I_h) 13, gW_13] at hpj2
  refine k_permP (ws' := gall (gW cI cJ cZ q S_n T_n U_n S_r T_r U_r G_s P_p' I_i S_iw T_iw U_iw G_is I_j S_jw T_jw U_jw G_js R_w OC_o O_o B_h P_h N_h L_h E_h V_h G_h D_h' O_h Z_h R_h I_h)) C hpj2 ?_
  refine k_st (K := K) [.int (iI r2), .int (iI r)] _ rfl rfl ?_
  obtain ⟨rfl, c1, c0⟩ := hc
  obtain ⟨rfl, m1, m0⟩ := hm
  have hP' : PadR P_p' D_h' := by
    by_cases z : (33 ≤ (f (i + 1)) ∧ (f (i + 1)) ≤ 126) ∧ D_h.1 < 60
    · rw [m1 z]; exact c1 z
    · rw [m0 z, c0 z]; exact hP
  exact k_icmp_same C dL_law_262 961 (by decide) (nx _ ⟨S_n, T_n, U_n, S_r, T_r, U_r, G_s, P_p', I_i, S_iw, T_iw, U_iw, G_is, I_j, S_jw, T_jw, U_jw, G_js, R_w, OC_o, O_o, B_h, P_h, N_h, L_h, E_h, V_h, G_h, D_h', O_h, Z_h, R_h, I_h, List.Perm.refl _, hI, hZ, hS, hT, hG, hP', hN, hi, hj⟩)
set_option maxHeartbeats 4000000 in
set_option maxRecDepth 20000 in
theorem lst_wipe {D : va_G} {A : Nat → Prop} {l : Launch} {K : KT} {cI cJ cZ : ClassId} {q : Nat → Nat → Nat} {b cs sl : Nat} {f : Int → Int} {Ln i : Int} {ws : va_W} (C : KC cL_law RL wsL_law room_1 4 D (kT cI cJ cZ) A l false (fun _ _ => False) 0 0 K) (sld : ∀ {pc n : Nat} {lv : List (Nat × Value)} {st : List Value} {ws : va_W} {i : Int}, decode cL_law pc = .ok (.iaload, 1) → 0 ≤ i → i < Ln → pc + 1 = n → K cs sl n lv (.int (iI (f i)) :: st) ws → K cs sl pc lv (.int (iI i) :: .ref b :: st) ws) (hf : ∀ k, rI (f k)) (hcs : cs + 0 ≤ room_1.cells ∧ sl + 0 ≤ room_1.slots) (i0 : 0 ≤ i) (i1 : i + 4 < Ln) (hR : LRel cI cJ cZ q ws) (nx : ∀ ws', LRel cI cJ cZ q ws' → K cs sl 961 [(3, .int (iI i)), (2, .ref (q 13 0)), (1, .ref (q 0 0)), (0, .ref b)] [] ws') : K cs sl 267 [(3, .int (iI i)), (2, .ref (q 13 0)), (1, .ref (q 0 0)), (0, .ref b)] [] ws := by
  obtain ⟨S_n, T_n, U_n, S_r, T_r, U_r, G_s, P_p, I_i, S_iw, T_iw, U_iw, G_is, I_j, S_jw, T_jw, U_jw, G_js, R_w, OC_o, O_o, B_h, P_h, N_h, L_h, E_h, V_h, G_h, D_h, O_h, Z_h, R_h, I_h, hp, hI, hZ, hS, hT, hG, hP, hN, hi, hj⟩ := hR
  refine k_aload_n C dL_law_267 2 rfl rfl 268 rfl ?_
  have hM := c_X6_wipe (l := l) (D := D) (cI := cI) (cJ := cJ) (cZ := cZ) (q 0) (q 1) (q 2) (q 3) (q 4) (q 5) (q 8) (q 11) (q 12) P_p (fun (r : Int) (P_p' : gPP) => r = D_h.1 ∧ P_p' = (0, P_p.2)) (by unfold wp_X6_wipe; exact ⟨hP.1, rfl⟩)
  have hps := lw_split (G := (gW cI cJ cZ q S_n T_n U_n S_r T_r U_r G_s P_p I_i S_iw T_iw U_iw G_is I_j S_jw T_jw U_jw G_js R_w OC_o O_o B_h P_h N_h L_h E_h V_h G_h D_h O_h Z_h R_h I_h)) [0, 4] [1, 2, 3, 5, 6, 7, 8, 9, 10, 11, 12, 13] hp (by decide)
  rw [lapp_2 (gW cI cJ cZ q S_n T_n U_n S_r T_r U_r G_s P_p I_i S_iw T_iw U_iw G_is I_j S_jw T_jw U_jw G_js R_w OC_o O_o B_h P_h N_h L_h E_h V_h G_h D_h O_h Z_h R_h I_h) 0 4, gW_0, gW_4] at hps
  refine k_callP (wr := lapp (gW cI cJ cZ q S_n T_n U_n S_r T_r U_r G_s P_p I_i S_iw T_iw U_iw G_is I_j S_jw T_jw U_jw G_js R_w OC_o O_o B_h P_h N_h L_h E_h V_h G_h D_h O_h Z_h R_h I_h) [1, 2, 3, 5, 6, 7, 8, 9, 10, 11, 12, 13]) C dL_law_268 hM gL_law_X6_wipe rfl sg_X6_wipe 6 rfl rfl rfl (Nat.le_of_ble_eq_true rfl) ⟨⟨rfl, rfl⟩, Nat.le_of_ble_eq_true rfl, Nat.le_of_ble_eq_true rfl⟩ hcs hps cs sl ⟨rfl, rfl⟩ 271 rfl (fun v w1 hq => ?_)
  obtain ⟨r, P_p', rfl, rfl, hc⟩ := hq
  have hpj := lw_join (G := (gW cI cJ cZ q S_n T_n U_n S_r T_r U_r G_s P_p' I_i S_iw T_iw U_iw G_is I_j S_jw T_jw U_jw G_js R_w OC_o O_o B_h P_h N_h L_h E_h V_h G_h D_h O_h Z_h R_h I_h)) [1, 2, 3, 5, 6, 7, 8, 9, 10, 11, 12, 13] [0, 4] (by decide)
  rw [lapp_agr (G := (gW cI cJ cZ q S_n T_n U_n S_r T_r U_r G_s P_p' I_i S_iw T_iw U_iw G_is I_j S_jw T_jw U_jw G_js R_w OC_o O_o B_h P_h N_h L_h E_h V_h G_h D_h O_h Z_h R_h I_h)) (G' := (gW cI cJ cZ q S_n T_n U_n S_r T_r U_r G_s P_p I_i S_iw T_iw U_iw G_is I_j S_jw T_jw U_jw G_js R_w OC_o O_o B_h P_h N_h L_h E_h V_h G_h D_h O_h Z_h R_h I_h)) [1, 2, 3, 5, 6, 7, 8, 9, 10, 11, 12, 13] ⟨rfl, rfl, rfl, rfl, rfl, rfl, rfl, rfl, rfl, rfl, rfl, rfl, trivial⟩, lapp_2 (gW cI cJ cZ q S_n T_n U_n S_r T_r U_r G_s P_p' I_i S_iw T_iw U_iw G_is I_j S_jw T_jw U_jw G_js R_w OC_o O_o B_h P_h N_h L_h E_h V_h G_h D_h O_h Z_h R_h I_h) 0 4, gW_0, gW_4] at hpj
  refine k_permP (ws' := gall (gW cI cJ cZ q S_n T_n U_n S_r T_r U_r G_s P_p' I_i S_iw T_iw U_iw G_is I_j S_jw T_jw U_jw G_js R_w OC_o O_o B_h P_h N_h L_h E_h V_h G_h D_h O_h Z_h R_h I_h)) C hpj ?_
  refine k_st (K := K) [.int (iI r)] _ rfl rfl ?_
  refine k_aload_n C dL_law_271 1 rfl rfl 272 rfl ?_
  have hM := c_X7_wipe (l := l) (D := D) (cI := cI) (cJ := cJ) (cZ := cZ) (q 13) B_h P_h N_h L_h E_h V_h G_h D_h O_h Z_h R_h I_h (fun (r : Int) (D_h' : gMD) => r = D_h.1 ∧ D_h' = (0, D_h.2)) (by unfold wp_X7_wipe; exact ⟨rfl, rfl⟩)
  have hps := lw_split (G := (gW cI cJ cZ q S_n T_n U_n S_r T_r U_r G_s P_p' I_i S_iw T_iw U_iw G_is I_j S_jw T_jw U_jw G_js R_w OC_o O_o B_h P_h N_h L_h E_h V_h G_h D_h O_h Z_h R_h I_h)) [13] [0, 1, 2, 3, 4, 5, 6, 7, 8, 9, 10, 11, 12] (List.Perm.refl _) (by decide)
  rw [lapp_1 (gW cI cJ cZ q S_n T_n U_n S_r T_r U_r G_s P_p' I_i S_iw T_iw U_iw G_is I_j S_jw T_jw U_jw G_js R_w OC_o O_o B_h P_h N_h L_h E_h V_h G_h D_h O_h Z_h R_h I_h) 13, gW_13] at hps
  refine k_callP (wr := lapp (gW cI cJ cZ q S_n T_n U_n S_r T_r U_r G_s P_p' I_i S_iw T_iw U_iw G_is I_j S_jw T_jw U_jw G_js R_w OC_o O_o B_h P_h N_h L_h E_h V_h G_h D_h O_h Z_h R_h I_h) [0, 1, 2, 3, 4, 5, 6, 7, 8, 9, 10, 11, 12]) C dL_law_272 hM gL_law_X7_wipe rfl sg_X7_wipe 7 rfl rfl rfl (Nat.le_of_ble_eq_true rfl) ⟨⟨rfl, rfl⟩, Nat.le_of_ble_eq_true rfl, Nat.le_of_ble_eq_true rfl⟩ hcs hps cs sl ⟨rfl, rfl⟩ 275 rfl (fun v w1 hq => ?_)
  obtain ⟨r2, D_h', rfl, rfl, hm⟩ := hq
  have hpj2 := lw_join (G := (gW cI cJ cZ q S_n T_n U_n S_r T_r U_r G_s P_p' I_i S_iw T_iw U_iw G_is I_j S_jw T_jw U_jw G_js R_w OC_o O_o B_h P_h N_h L_h E_h V_h G_h D_h' O_h Z_h R_h I_h)) [0, 1, 2, 3, 4, 5, 6, 7, 8, 9, 10, 11, 12] [13] (by decide)
  rw [lapp_agr (G := (gW cI cJ cZ q S_n T_n U_n S_r T_r U_r G_s P_p' I_i S_iw T_iw U_iw G_is I_j S_jw T_jw U_jw G_js R_w OC_o O_o B_h P_h N_h L_h E_h V_h G_h D_h' O_h Z_h R_h I_h)) (G' := (gW cI cJ cZ q S_n T_n U_n S_r T_r U_r G_s P_p' I_i S_iw T_iw U_iw G_is I_j S_jw T_jw U_jw G_js R_w OC_o O_o B_h P_h N_h L_h E_h V_h G_h D_h O_h Z_h R_h I_h)) [0, 1, 2, 3, 4, 5, 6, 7, 8, 9, 10, 11, 12] ⟨rfl, rfl, rfl, rfl, rfl, rfl, rfl, rfl, rfl, rfl, rfl, rfl, rfl, trivial⟩, lapp_1 (gW cI cJ cZ q S_n T_n U_n S_r T_r U_r G_s P_p' I_i S_iw T_iw U_iw G_is I_j S_jw T_jw U_jw G_js R_w OC_o O_o B_h P_h N_h L_h E_h V_h G_h D_h' O_h Z_h R_h I_h) 13, gW_13] at hpj2
  refine k_permP (ws' := gall (gW cI cJ cZ q S_n T_n U_n S_r T_r U_r G_s P_p' I_i S_iw T_iw U_iw G_is I_j S_jw T_jw U_jw G_js R_w OC_o O_o B_h P_h N_h L_h E_h V_h G_h D_h' O_h Z_h R_h I_h)) C hpj2 ?_
  refine k_st (K := K) [.int (iI r2), .int (iI r)] _ rfl rfl ?_
  obtain ⟨rfl, rfl⟩ := hc
  obtain ⟨rfl, rfl⟩ := hm
  have hP' : PadR (0, P_p.2) (0, D_h.2) := ⟨rfl, ⟨Int.le_refl 0, by show (0 : Int) ≤ 60; omega⟩, fun j j0 j1 => by have j1 : j < 0 := j1; omega⟩
  exact k_icmp_same C dL_law_275 961 (by decide) (nx _ ⟨S_n, T_n, U_n, S_r, T_r, U_r, G_s, (0, P_p.2), I_i, S_iw, T_iw, U_iw, G_is, I_j, S_jw, T_jw, U_jw, G_js, R_w, OC_o, O_o, B_h, P_h, N_h, L_h, E_h, V_h, G_h, (0, D_h.2), O_h, Z_h, R_h, I_h, List.Perm.refl _, hI, hZ, hS, hT, hG, hP', hN, hi, hj⟩)
set_option maxHeartbeats 4000000 in
set_option maxRecDepth 20000 in
theorem lst_fault {D : va_G} {A : Nat → Prop} {l : Launch} {K : KT} {cI cJ cZ : ClassId} {q : Nat → Nat → Nat} {b cs sl : Nat} {f : Int → Int} {Ln i : Int} {ws : va_W} (C : KC cL_law RL wsL_law room_1 4 D (kT cI cJ cZ) A l false (fun _ _ => False) 0 0 K) (sld : ∀ {pc n : Nat} {lv : List (Nat × Value)} {st : List Value} {ws : va_W} {i : Int}, decode cL_law pc = .ok (.iaload, 1) → 0 ≤ i → i < Ln → pc + 1 = n → K cs sl n lv (.int (iI (f i)) :: st) ws → K cs sl pc lv (.int (iI i) :: .ref b :: st) ws) (hf : ∀ k, rI (f k)) (hcs : cs + 0 ≤ room_1.cells ∧ sl + 0 ≤ room_1.slots) (i0 : 0 ≤ i) (i1 : i + 4 < Ln) (hR : LRel cI cJ cZ q ws) (nx : ∀ ws', LRel cI cJ cZ q ws' → K cs sl 961 [(3, .int (iI i)), (2, .ref (q 13 0)), (1, .ref (q 0 0)), (0, .ref b)] [] ws') : K cs sl 280 [(3, .int (iI i)), (2, .ref (q 13 0)), (1, .ref (q 0 0)), (0, .ref b)] [] ws := by
  obtain ⟨S_n, T_n, U_n, S_r, T_r, U_r, G_s, P_p, I_i, S_iw, T_iw, U_iw, G_is, I_j, S_jw, T_jw, U_jw, G_js, R_w, OC_o, O_o, B_h, P_h, N_h, L_h, E_h, V_h, G_h, D_h, O_h, Z_h, R_h, I_h, hp, hI, hZ, hS, hT, hG, hP, hN, hi, hj⟩ := hR
  refine k_aload_n C dL_law_280 2 rfl rfl 281 rfl ?_
  have hM := c_X6_fault (l := l) (D := D) (cI := cI) (cJ := cJ) (cZ := cZ) (q 0) (q 1) (q 2) (q 3) (q 4) (q 5) (q 8) (q 11) (q 12) S_n T_n U_n P_p (fun (r : Int)  => r = ff B_h.1 D_h) (by unfold wp_X6_fault; rw [hS.1]; exact s_firstFault hP ⟨by have := hI.1.1; omega, by have := hI.1.1; omega⟩ rfl)
  have hps := lw_split (G := (gW cI cJ cZ q S_n T_n U_n S_r T_r U_r G_s P_p I_i S_iw T_iw U_iw G_is I_j S_jw T_jw U_jw G_js R_w OC_o O_o B_h P_h N_h L_h E_h V_h G_h D_h O_h Z_h R_h I_h)) [0, 1, 4] [2, 3, 5, 6, 7, 8, 9, 10, 11, 12, 13] hp (by decide)
  rw [lapp_3 (gW cI cJ cZ q S_n T_n U_n S_r T_r U_r G_s P_p I_i S_iw T_iw U_iw G_is I_j S_jw T_jw U_jw G_js R_w OC_o O_o B_h P_h N_h L_h E_h V_h G_h D_h O_h Z_h R_h I_h) 0 1 4, gW_0, gW_1, gW_4] at hps
  refine k_callP (wr := lapp (gW cI cJ cZ q S_n T_n U_n S_r T_r U_r G_s P_p I_i S_iw T_iw U_iw G_is I_j S_jw T_jw U_jw G_js R_w OC_o O_o B_h P_h N_h L_h E_h V_h G_h D_h O_h Z_h R_h I_h) [2, 3, 5, 6, 7, 8, 9, 10, 11, 12, 13]) C dL_law_281 hM gL_law_X6_fault rfl sg_X6_fault 6 rfl rfl rfl (Nat.le_of_ble_eq_true rfl) ⟨⟨rfl, rfl⟩, Nat.le_of_ble_eq_true rfl, Nat.le_of_ble_eq_true rfl⟩ hcs hps cs sl ⟨rfl, rfl⟩ 284 rfl (fun v w1 hq => ?_)
  obtain ⟨r, rfl, rfl, hc⟩ := hq
  have hpj := lw_join (G := (gW cI cJ cZ q S_n T_n U_n S_r T_r U_r G_s P_p I_i S_iw T_iw U_iw G_is I_j S_jw T_jw U_jw G_js R_w OC_o O_o B_h P_h N_h L_h E_h V_h G_h D_h O_h Z_h R_h I_h)) [2, 3, 5, 6, 7, 8, 9, 10, 11, 12, 13] [0, 1, 4] (by decide)
  rw [lapp_agr (G := (gW cI cJ cZ q S_n T_n U_n S_r T_r U_r G_s P_p I_i S_iw T_iw U_iw G_is I_j S_jw T_jw U_jw G_js R_w OC_o O_o B_h P_h N_h L_h E_h V_h G_h D_h O_h Z_h R_h I_h)) (G' := (gW cI cJ cZ q S_n T_n U_n S_r T_r U_r G_s P_p I_i S_iw T_iw U_iw G_is I_j S_jw T_jw U_jw G_js R_w OC_o O_o B_h P_h N_h L_h E_h V_h G_h D_h O_h Z_h R_h I_h)) [2, 3, 5, 6, 7, 8, 9, 10, 11, 12, 13] ⟨rfl, rfl, rfl, rfl, rfl, rfl, rfl, rfl, rfl, rfl, rfl, trivial⟩, lapp_3 (gW cI cJ cZ q S_n T_n U_n S_r T_r U_r G_s P_p I_i S_iw T_iw U_iw G_is I_j S_jw T_jw U_jw G_js R_w OC_o O_o B_h P_h N_h L_h E_h V_h G_h D_h O_h Z_h R_h I_h) 0 1 4, gW_0, gW_1, gW_4] at hpj
  refine k_permP (ws' := gall (gW cI cJ cZ q S_n T_n U_n S_r T_r U_r G_s P_p I_i S_iw T_iw U_iw G_is I_j S_jw T_jw U_jw G_js R_w OC_o O_o B_h P_h N_h L_h E_h V_h G_h D_h O_h Z_h R_h I_h)) C hpj ?_
  refine k_st (K := K) [.int (iI r)] _ rfl rfl ?_
  refine k_aload_n C dL_law_284 1 rfl rfl 285 rfl ?_
  have hM := c_X7_fault (l := l) (D := D) (cI := cI) (cJ := cJ) (cZ := cZ) (q 13) B_h P_h N_h L_h E_h V_h G_h D_h O_h Z_h R_h I_h (fun (r : Int)  => r = ff B_h.1 D_h) (s_X7_faultOf hI.1 hP.2.1 (fun j j0 j1 => (hP.2.2 j j0 j1).2) rfl)
  have hps := lw_split (G := (gW cI cJ cZ q S_n T_n U_n S_r T_r U_r G_s P_p I_i S_iw T_iw U_iw G_is I_j S_jw T_jw U_jw G_js R_w OC_o O_o B_h P_h N_h L_h E_h V_h G_h D_h O_h Z_h R_h I_h)) [13] [0, 1, 2, 3, 4, 5, 6, 7, 8, 9, 10, 11, 12] (List.Perm.refl _) (by decide)
  rw [lapp_1 (gW cI cJ cZ q S_n T_n U_n S_r T_r U_r G_s P_p I_i S_iw T_iw U_iw G_is I_j S_jw T_jw U_jw G_js R_w OC_o O_o B_h P_h N_h L_h E_h V_h G_h D_h O_h Z_h R_h I_h) 13, gW_13] at hps
  refine k_callP (wr := lapp (gW cI cJ cZ q S_n T_n U_n S_r T_r U_r G_s P_p I_i S_iw T_iw U_iw G_is I_j S_jw T_jw U_jw G_js R_w OC_o O_o B_h P_h N_h L_h E_h V_h G_h D_h O_h Z_h R_h I_h) [0, 1, 2, 3, 4, 5, 6, 7, 8, 9, 10, 11, 12]) C dL_law_285 hM gL_law_X7_fault rfl sg_X7_fault 7 rfl rfl rfl (Nat.le_of_ble_eq_true rfl) ⟨⟨rfl, rfl⟩, Nat.le_of_ble_eq_true rfl, Nat.le_of_ble_eq_true rfl⟩ hcs hps cs sl ⟨rfl, rfl⟩ 288 rfl (fun v w1 hq => ?_)
  obtain ⟨r2, rfl, rfl, hm⟩ := hq
  have hpj2 := lw_join (G := (gW cI cJ cZ q S_n T_n U_n S_r T_r U_r G_s P_p I_i S_iw T_iw U_iw G_is I_j S_jw T_jw U_jw G_js R_w OC_o O_o B_h P_h N_h L_h E_h V_h G_h D_h O_h Z_h R_h I_h)) [0, 1, 2, 3, 4, 5, 6, 7, 8, 9, 10, 11, 12] [13] (by decide)
  rw [lapp_agr (G := (gW cI cJ cZ q S_n T_n U_n S_r T_r U_r G_s P_p I_i S_iw T_iw U_iw G_is I_j S_jw T_jw U_jw G_js R_w OC_o O_o B_h P_h N_h L_h E_h V_h G_h D_h O_h Z_h R_h I_h)) (G' := (gW cI cJ cZ q S_n T_n U_n S_r T_r U_r G_s P_p I_i S_iw T_iw U_iw G_is I_j S_jw T_jw U_jw G_js R_w OC_o O_o B_h P_h N_h L_h E_h V_h G_h D_h O_h Z_h R_h I_h)) [0, 1, 2, 3, 4, 5, 6, 7, 8, 9, 10, 11, 12] ⟨rfl, rfl, rfl, rfl, rfl, rfl, rfl, rfl, rfl, rfl, rfl, rfl, rfl, trivial⟩, lapp_1 (gW cI cJ cZ q S_n T_n U_n S_r T_r U_r G_s P_p I_i S_iw T_iw U_iw G_is I_j S_jw T_jw U_jw G_js R_w OC_o O_o B_h P_h N_h L_h E_h V_h G_h D_h O_h Z_h R_h I_h) 13, gW_13] at hpj2
  refine k_permP (ws' := gall (gW cI cJ cZ q S_n T_n U_n S_r T_r U_r G_s P_p I_i S_iw T_iw U_iw G_is I_j S_jw T_jw U_jw G_js R_w OC_o O_o B_h P_h N_h L_h E_h V_h G_h D_h O_h Z_h R_h I_h)) C hpj2 ?_
  refine k_st (K := K) [.int (iI r2), .int (iI r)] _ rfl rfl ?_
  subst hc
  subst hm
  exact k_icmp_same C dL_law_288 961 (by decide) (nx _ ⟨S_n, T_n, U_n, S_r, T_r, U_r, G_s, P_p, I_i, S_iw, T_iw, U_iw, G_is, I_j, S_jw, T_jw, U_jw, G_js, R_w, OC_o, O_o, B_h, P_h, N_h, L_h, E_h, V_h, G_h, D_h, O_h, Z_h, R_h, I_h, List.Perm.refl _, hI, hZ, hS, hT, hG, hP, hN, hi, hj⟩)
set_option maxHeartbeats 4000000 in
set_option maxRecDepth 20000 in
theorem lst_judge {D : va_G} {A : Nat → Prop} {l : Launch} {K : KT} {cI cJ cZ : ClassId} {q : Nat → Nat → Nat} {b cs sl : Nat} {f : Int → Int} {Ln i : Int} {ws : va_W} (C : KC cL_law RL wsL_law room_1 4 D (kT cI cJ cZ) A l false (fun _ _ => False) 0 0 K) (sld : ∀ {pc n : Nat} {lv : List (Nat × Value)} {st : List Value} {ws : va_W} {i : Int}, decode cL_law pc = .ok (.iaload, 1) → 0 ≤ i → i < Ln → pc + 1 = n → K cs sl n lv (.int (iI (f i)) :: st) ws → K cs sl pc lv (.int (iI i) :: .ref b :: st) ws) (hf : ∀ k, rI (f k)) (hcs : cs + 0 ≤ room_1.cells ∧ sl + 0 ≤ room_1.slots) (i0 : 0 ≤ i) (i1 : i + 4 < Ln) (hR : LRel cI cJ cZ q ws) (nx : ∀ ws', LRel cI cJ cZ q ws' → K cs sl 961 [(3, .int (iI i)), (2, .ref (q 13 0)), (1, .ref (q 0 0)), (0, .ref b)] [] ws') : K cs sl 293 [(3, .int (iI i)), (2, .ref (q 13 0)), (1, .ref (q 0 0)), (0, .ref b)] [] ws := by
  obtain ⟨S_n, T_n, U_n, S_r, T_r, U_r, G_s, P_p, I_i, S_iw, T_iw, U_iw, G_is, I_j, S_jw, T_jw, U_jw, G_js, R_w, OC_o, O_o, B_h, P_h, N_h, L_h, E_h, V_h, G_h, D_h, O_h, Z_h, R_h, I_h, hp, hI, hZ, hS, hT, hG, hP, hN, hi, hj⟩ := hR
  refine k_aload_n C dL_law_293 2 rfl rfl 294 rfl ?_
  refine k_aload_n C dL_law_294 3 rfl rfl 295 rfl ?_
  refine k_iload_n C dL_law_295 0 rfl rfl 296 rfl ?_
  refine k_iconst C dL_law_296 297 rfl ?_
  refine k_iadd C dL_law_297 298 rfl ?_
  refine sld dL_law_298 (by omega) (by omega) rfl ?_
  have hM := c_X6_judge (l := l) (D := D) (cI := cI) (cJ := cJ) (cZ := cZ) (q 0) (q 1) (q 2) (q 3) (q 4) (q 5) (q 8) (q 11) (q 12) S_n T_n U_n S_r T_r U_r P_p (f (i + 1)) (fun (r : Int) (S_r' : gWS) (T_r' : gWT) (U_r' : gWU) => r = vJudge B_h D_h P_h (f (i + 1))) (s_judge hI hS hT hP (hf _) (fun _ _ _ => rfl))
  have hps := lw_split (G := (gW cI cJ cZ q S_n T_n U_n S_r T_r U_r G_s P_p I_i S_iw T_iw U_iw G_is I_j S_jw T_jw U_jw G_js R_w OC_o O_o B_h P_h N_h L_h E_h V_h G_h D_h O_h Z_h R_h I_h)) [0, 1, 2, 4] [3, 5, 6, 7, 8, 9, 10, 11, 12, 13] hp (by decide)
  rw [lapp_4 (gW cI cJ cZ q S_n T_n U_n S_r T_r U_r G_s P_p I_i S_iw T_iw U_iw G_is I_j S_jw T_jw U_jw G_js R_w OC_o O_o B_h P_h N_h L_h E_h V_h G_h D_h O_h Z_h R_h I_h) 0 1 2 4, gW_0, gW_1, gW_2, gW_4] at hps
  refine k_callP (wr := lapp (gW cI cJ cZ q S_n T_n U_n S_r T_r U_r G_s P_p I_i S_iw T_iw U_iw G_is I_j S_jw T_jw U_jw G_js R_w OC_o O_o B_h P_h N_h L_h E_h V_h G_h D_h O_h Z_h R_h I_h) [3, 5, 6, 7, 8, 9, 10, 11, 12, 13]) C dL_law_299 hM gL_law_X6_judge rfl sg_X6_judge 6 rfl rfl rfl (Nat.le_of_ble_eq_true rfl) ⟨⟨rfl, rfl⟩, Nat.le_of_ble_eq_true rfl, Nat.le_of_ble_eq_true rfl⟩ hcs hps cs sl ⟨rfl, rfl⟩ 302 rfl (fun v w1 hq => ?_)
  obtain ⟨r, S_r', T_r', U_r', rfl, rfl, hc⟩ := hq
  have hpj := lw_join (G := (gW cI cJ cZ q S_n T_n U_n S_r' T_r' U_r' G_s P_p I_i S_iw T_iw U_iw G_is I_j S_jw T_jw U_jw G_js R_w OC_o O_o B_h P_h N_h L_h E_h V_h G_h D_h O_h Z_h R_h I_h)) [3, 5, 6, 7, 8, 9, 10, 11, 12, 13] [0, 1, 2, 4] (by decide)
  rw [lapp_agr (G := (gW cI cJ cZ q S_n T_n U_n S_r' T_r' U_r' G_s P_p I_i S_iw T_iw U_iw G_is I_j S_jw T_jw U_jw G_js R_w OC_o O_o B_h P_h N_h L_h E_h V_h G_h D_h O_h Z_h R_h I_h)) (G' := (gW cI cJ cZ q S_n T_n U_n S_r T_r U_r G_s P_p I_i S_iw T_iw U_iw G_is I_j S_jw T_jw U_jw G_js R_w OC_o O_o B_h P_h N_h L_h E_h V_h G_h D_h O_h Z_h R_h I_h)) [3, 5, 6, 7, 8, 9, 10, 11, 12, 13] ⟨rfl, rfl, rfl, rfl, rfl, rfl, rfl, rfl, rfl, rfl, trivial⟩, lapp_4 (gW cI cJ cZ q S_n T_n U_n S_r' T_r' U_r' G_s P_p I_i S_iw T_iw U_iw G_is I_j S_jw T_jw U_jw G_js R_w OC_o O_o B_h P_h N_h L_h E_h V_h G_h D_h O_h Z_h R_h I_h) 0 1 2 4, gW_0, gW_1, gW_2, gW_4] at hpj
  refine k_permP (ws' := gall (gW cI cJ cZ q S_n T_n U_n S_r' T_r' U_r' G_s P_p I_i S_iw T_iw U_iw G_is I_j S_jw T_jw U_jw G_js R_w OC_o O_o B_h P_h N_h L_h E_h V_h G_h D_h O_h Z_h R_h I_h)) C hpj ?_
  refine k_st (K := K) [.int (iI r)] _ rfl rfl ?_
  refine k_aload_n C dL_law_302 1 rfl rfl 303 rfl ?_
  refine k_aload_n C dL_law_303 3 rfl rfl 304 rfl ?_
  refine k_iload_n C dL_law_304 0 rfl rfl 305 rfl ?_
  refine k_iconst C dL_law_305 306 rfl ?_
  refine k_iadd C dL_law_306 307 rfl ?_
  refine sld dL_law_307 (by omega) (by omega) rfl ?_
  have hM := c_X7_judge (l := l) (D := D) (cI := cI) (cJ := cJ) (cZ := cZ) (q 13) B_h P_h N_h L_h E_h V_h G_h D_h O_h Z_h R_h I_h (f (i + 1)) (fun (r : Int) (N_h' : gMN) (L_h' : gML) (E_h' : gME) => r = vJudge B_h D_h P_h (f (i + 1)) ∧ Scr N_h' L_h') (s_X7_judge hI hN hP.2.1 (fun j j0 j1 => (hP.2.2 j j0 j1).2) (hf _) (fun N' L' _ h => ⟨rfl, h⟩))
  have hps := lw_split (G := (gW cI cJ cZ q S_n T_n U_n S_r' T_r' U_r' G_s P_p I_i S_iw T_iw U_iw G_is I_j S_jw T_jw U_jw G_js R_w OC_o O_o B_h P_h N_h L_h E_h V_h G_h D_h O_h Z_h R_h I_h)) [13] [0, 1, 2, 3, 4, 5, 6, 7, 8, 9, 10, 11, 12] (List.Perm.refl _) (by decide)
  rw [lapp_1 (gW cI cJ cZ q S_n T_n U_n S_r' T_r' U_r' G_s P_p I_i S_iw T_iw U_iw G_is I_j S_jw T_jw U_jw G_js R_w OC_o O_o B_h P_h N_h L_h E_h V_h G_h D_h O_h Z_h R_h I_h) 13, gW_13] at hps
  refine k_callP (wr := lapp (gW cI cJ cZ q S_n T_n U_n S_r' T_r' U_r' G_s P_p I_i S_iw T_iw U_iw G_is I_j S_jw T_jw U_jw G_js R_w OC_o O_o B_h P_h N_h L_h E_h V_h G_h D_h O_h Z_h R_h I_h) [0, 1, 2, 3, 4, 5, 6, 7, 8, 9, 10, 11, 12]) C dL_law_308 hM gL_law_X7_judge rfl sg_X7_judge 7 rfl rfl rfl (Nat.le_of_ble_eq_true rfl) ⟨⟨rfl, rfl⟩, Nat.le_of_ble_eq_true rfl, Nat.le_of_ble_eq_true rfl⟩ hcs hps cs sl ⟨rfl, rfl⟩ 311 rfl (fun v w1 hq => ?_)
  obtain ⟨r2, N_h', L_h', E_h', rfl, rfl, hm⟩ := hq
  have hpj2 := lw_join (G := (gW cI cJ cZ q S_n T_n U_n S_r' T_r' U_r' G_s P_p I_i S_iw T_iw U_iw G_is I_j S_jw T_jw U_jw G_js R_w OC_o O_o B_h P_h N_h' L_h' E_h' V_h G_h D_h O_h Z_h R_h I_h)) [0, 1, 2, 3, 4, 5, 6, 7, 8, 9, 10, 11, 12] [13] (by decide)
  rw [lapp_agr (G := (gW cI cJ cZ q S_n T_n U_n S_r' T_r' U_r' G_s P_p I_i S_iw T_iw U_iw G_is I_j S_jw T_jw U_jw G_js R_w OC_o O_o B_h P_h N_h' L_h' E_h' V_h G_h D_h O_h Z_h R_h I_h)) (G' := (gW cI cJ cZ q S_n T_n U_n S_r' T_r' U_r' G_s P_p I_i S_iw T_iw U_iw G_is I_j S_jw T_jw U_jw G_js R_w OC_o O_o B_h P_h N_h L_h E_h V_h G_h D_h O_h Z_h R_h I_h)) [0, 1, 2, 3, 4, 5, 6, 7, 8, 9, 10, 11, 12] ⟨rfl, rfl, rfl, rfl, rfl, rfl, rfl, rfl, rfl, rfl, rfl, rfl, rfl, trivial⟩, lapp_1 (gW cI cJ cZ q S_n T_n U_n S_r' T_r' U_r' G_s P_p I_i S_iw T_iw U_iw G_is I_j S_jw T_jw U_jw G_js R_w OC_o O_o B_h P_h N_h' L_h' E_h' V_h G_h D_h O_h Z_h R_h I_h) 13, gW_13] at hpj2
  refine k_permP (ws' := gall (gW cI cJ cZ q S_n T_n U_n S_r' T_r' U_r' G_s P_p I_i S_iw T_iw U_iw G_is I_j S_jw T_jw U_jw G_js R_w OC_o O_o B_h P_h N_h' L_h' E_h' V_h G_h D_h O_h Z_h R_h I_h)) C hpj2 ?_
  refine k_st (K := K) [.int (iI r2), .int (iI r)] _ rfl rfl ?_
  subst hc
  obtain ⟨rfl, hN'⟩ := hm
  exact k_icmp_same C dL_law_311 961 (by decide) (nx _ ⟨S_n, T_n, U_n, S_r', T_r', U_r', G_s, P_p, I_i, S_iw, T_iw, U_iw, G_is, I_j, S_jw, T_jw, U_jw, G_js, R_w, OC_o, O_o, B_h, P_h, N_h', L_h', E_h', V_h, G_h, D_h, O_h, Z_h, R_h, I_h, List.Perm.refl _, hI, hZ, hS, hT, hG, hP, hN', hi, hj⟩)
set_option maxHeartbeats 4000000 in
set_option maxRecDepth 20000 in
theorem lst_done {D : va_G} {A : Nat → Prop} {l : Launch} {K : KT} {cI cJ cZ : ClassId} {q : Nat → Nat → Nat} {b cs sl : Nat} {f : Int → Int} {Ln i : Int} {ws : va_W} (C : KC cL_law RL wsL_law room_1 4 D (kT cI cJ cZ) A l false (fun _ _ => False) 0 0 K) (sld : ∀ {pc n : Nat} {lv : List (Nat × Value)} {st : List Value} {ws : va_W} {i : Int}, decode cL_law pc = .ok (.iaload, 1) → 0 ≤ i → i < Ln → pc + 1 = n → K cs sl n lv (.int (iI (f i)) :: st) ws → K cs sl pc lv (.int (iI i) :: .ref b :: st) ws) (hf : ∀ k, rI (f k)) (hcs : cs + 0 ≤ room_1.cells ∧ sl + 0 ≤ room_1.slots) (i0 : 0 ≤ i) (i1 : i + 4 < Ln) (hR : LRel cI cJ cZ q ws) (nx : ∀ ws', LRel cI cJ cZ q ws' → K cs sl 961 [(3, .int (iI i)), (2, .ref (q 13 0)), (1, .ref (q 0 0)), (0, .ref b)] [] ws') : K cs sl 316 [(3, .int (iI i)), (2, .ref (q 13 0)), (1, .ref (q 0 0)), (0, .ref b)] [] ws := by
  obtain ⟨S_n, T_n, U_n, S_r, T_r, U_r, G_s, P_p, I_i, S_iw, T_iw, U_iw, G_is, I_j, S_jw, T_jw, U_jw, G_js, R_w, OC_o, O_o, B_h, P_h, N_h, L_h, E_h, V_h, G_h, D_h, O_h, Z_h, R_h, I_h, hp, hI, hZ, hS, hT, hG, hP, hN, hi, hj⟩ := hR
  refine k_aload_n C dL_law_316 2 rfl rfl 317 rfl ?_
  have hM := c_X6_done (l := l) (D := D) (cI := cI) (cJ := cJ) (cZ := cZ) (q 0) (q 1) (q 2) (q 3) (q 4) (q 5) (q 8) (q 11) (q 12) S_n T_n U_n S_r T_r U_r P_p (fun (r : Int) (S_n' : gWS) (T_n' : gWT) (S_r' : gWS) (T_r' : gWT) (U_r' : gWU) (P_p' : gPP) => r = vDone B_h D_h P_h ∧ (vBar B_h D_h P_h = 0 → SR B_h S_n' ∧ TR B_h (yr B_h D_h P_h).2.2 T_n' ∧ P_p' = (0, P_p.2)) ∧ (vBar B_h D_h P_h ≠ 0 → S_n' = S_n ∧ T_n' = T_n ∧ P_p' = P_p)) (s_done hI hS hT hP (fun z S' T' _ _ _ h1 h2 => ⟨rfl, fun _ => ⟨h1, h2, rfl⟩, fun q => absurd z q⟩) (fun z _ _ _ => ⟨rfl, fun q => absurd q z, fun _ => ⟨rfl, rfl, rfl⟩⟩))
  have hps := lw_split (G := (gW cI cJ cZ q S_n T_n U_n S_r T_r U_r G_s P_p I_i S_iw T_iw U_iw G_is I_j S_jw T_jw U_jw G_js R_w OC_o O_o B_h P_h N_h L_h E_h V_h G_h D_h O_h Z_h R_h I_h)) [0, 1, 2, 4] [3, 5, 6, 7, 8, 9, 10, 11, 12, 13] hp (by decide)
  rw [lapp_4 (gW cI cJ cZ q S_n T_n U_n S_r T_r U_r G_s P_p I_i S_iw T_iw U_iw G_is I_j S_jw T_jw U_jw G_js R_w OC_o O_o B_h P_h N_h L_h E_h V_h G_h D_h O_h Z_h R_h I_h) 0 1 2 4, gW_0, gW_1, gW_2, gW_4] at hps
  refine k_callP (wr := lapp (gW cI cJ cZ q S_n T_n U_n S_r T_r U_r G_s P_p I_i S_iw T_iw U_iw G_is I_j S_jw T_jw U_jw G_js R_w OC_o O_o B_h P_h N_h L_h E_h V_h G_h D_h O_h Z_h R_h I_h) [3, 5, 6, 7, 8, 9, 10, 11, 12, 13]) C dL_law_317 hM gL_law_X6_done rfl sg_X6_done 6 rfl rfl rfl (Nat.le_of_ble_eq_true rfl) ⟨⟨rfl, rfl⟩, Nat.le_of_ble_eq_true rfl, Nat.le_of_ble_eq_true rfl⟩ hcs hps cs sl ⟨rfl, rfl⟩ 320 rfl (fun v w1 hq => ?_)
  obtain ⟨r, S_n', T_n', S_r', T_r', U_r', P_p', rfl, rfl, hc⟩ := hq
  have hpj := lw_join (G := (gW cI cJ cZ q S_n' T_n' U_n S_r' T_r' U_r' G_s P_p' I_i S_iw T_iw U_iw G_is I_j S_jw T_jw U_jw G_js R_w OC_o O_o B_h P_h N_h L_h E_h V_h G_h D_h O_h Z_h R_h I_h)) [3, 5, 6, 7, 8, 9, 10, 11, 12, 13] [0, 1, 2, 4] (by decide)
  rw [lapp_agr (G := (gW cI cJ cZ q S_n' T_n' U_n S_r' T_r' U_r' G_s P_p' I_i S_iw T_iw U_iw G_is I_j S_jw T_jw U_jw G_js R_w OC_o O_o B_h P_h N_h L_h E_h V_h G_h D_h O_h Z_h R_h I_h)) (G' := (gW cI cJ cZ q S_n T_n U_n S_r T_r U_r G_s P_p I_i S_iw T_iw U_iw G_is I_j S_jw T_jw U_jw G_js R_w OC_o O_o B_h P_h N_h L_h E_h V_h G_h D_h O_h Z_h R_h I_h)) [3, 5, 6, 7, 8, 9, 10, 11, 12, 13] ⟨rfl, rfl, rfl, rfl, rfl, rfl, rfl, rfl, rfl, rfl, trivial⟩, lapp_4 (gW cI cJ cZ q S_n' T_n' U_n S_r' T_r' U_r' G_s P_p' I_i S_iw T_iw U_iw G_is I_j S_jw T_jw U_jw G_js R_w OC_o O_o B_h P_h N_h L_h E_h V_h G_h D_h O_h Z_h R_h I_h) 0 1 2 4, gW_0, gW_1, gW_2, gW_4] at hpj
  refine k_permP (ws' := gall (gW cI cJ cZ q S_n' T_n' U_n S_r' T_r' U_r' G_s P_p' I_i S_iw T_iw U_iw G_is I_j S_jw T_jw U_jw G_js R_w OC_o O_o B_h P_h N_h L_h E_h V_h G_h D_h O_h Z_h R_h I_h)) C hpj ?_
  refine k_st (K := K) [.int (iI r)] _ rfl rfl ?_
  refine k_aload_n C dL_law_320 1 rfl rfl 321 rfl ?_
  have hM := c_X7_done (l := l) (D := D) (cI := cI) (cJ := cJ) (cZ := cZ) (q 13) B_h P_h N_h L_h E_h V_h G_h D_h O_h Z_h R_h I_h (fun (r : Int) (P_h' : gMP) (N_h' : gMN) (L_h' : gML) (E_h' : gME) (D_h' : gMD) => r = vDone B_h D_h P_h ∧ Scr N_h' L_h' ∧ (vBar B_h D_h P_h = 0 → P_h' = (yr B_h D_h P_h).2.2 ∧ Inv B_h P_h' ∧ D_h' = (0, D_h.2)) ∧ (vBar B_h D_h P_h ≠ 0 → P_h' = P_h ∧ D_h' = D_h)) (s_X7_done hI hN hP.2.1 (fun j j0 j1 => (hP.2.2 j j0 j1).2) (fun z N' L' _ hs h => ⟨rfl, hs, fun _ => ⟨rfl, h, rfl⟩, fun q => absurd z q⟩) (fun z N' L' _ hs => ⟨rfl, hs, fun q => absurd q z, fun _ => ⟨rfl, rfl⟩⟩))
  have hps := lw_split (G := (gW cI cJ cZ q S_n' T_n' U_n S_r' T_r' U_r' G_s P_p' I_i S_iw T_iw U_iw G_is I_j S_jw T_jw U_jw G_js R_w OC_o O_o B_h P_h N_h L_h E_h V_h G_h D_h O_h Z_h R_h I_h)) [13] [0, 1, 2, 3, 4, 5, 6, 7, 8, 9, 10, 11, 12] (List.Perm.refl _) (by decide)
  rw [lapp_1 (gW cI cJ cZ q S_n' T_n' U_n S_r' T_r' U_r' G_s P_p' I_i S_iw T_iw U_iw G_is I_j S_jw T_jw U_jw G_js R_w OC_o O_o B_h P_h N_h L_h E_h V_h G_h D_h O_h Z_h R_h I_h) 13, gW_13] at hps
  refine k_callP (wr := lapp (gW cI cJ cZ q S_n' T_n' U_n S_r' T_r' U_r' G_s P_p' I_i S_iw T_iw U_iw G_is I_j S_jw T_jw U_jw G_js R_w OC_o O_o B_h P_h N_h L_h E_h V_h G_h D_h O_h Z_h R_h I_h) [0, 1, 2, 3, 4, 5, 6, 7, 8, 9, 10, 11, 12]) C dL_law_321 hM gL_law_X7_done rfl sg_X7_done 7 rfl rfl rfl (Nat.le_of_ble_eq_true rfl) ⟨⟨rfl, rfl⟩, Nat.le_of_ble_eq_true rfl, Nat.le_of_ble_eq_true rfl⟩ hcs hps cs sl ⟨rfl, rfl⟩ 324 rfl (fun v w1 hq => ?_)
  obtain ⟨r2, P_h', N_h', L_h', E_h', D_h', rfl, rfl, hm⟩ := hq
  have hpj2 := lw_join (G := (gW cI cJ cZ q S_n' T_n' U_n S_r' T_r' U_r' G_s P_p' I_i S_iw T_iw U_iw G_is I_j S_jw T_jw U_jw G_js R_w OC_o O_o B_h P_h' N_h' L_h' E_h' V_h G_h D_h' O_h Z_h R_h I_h)) [0, 1, 2, 3, 4, 5, 6, 7, 8, 9, 10, 11, 12] [13] (by decide)
  rw [lapp_agr (G := (gW cI cJ cZ q S_n' T_n' U_n S_r' T_r' U_r' G_s P_p' I_i S_iw T_iw U_iw G_is I_j S_jw T_jw U_jw G_js R_w OC_o O_o B_h P_h' N_h' L_h' E_h' V_h G_h D_h' O_h Z_h R_h I_h)) (G' := (gW cI cJ cZ q S_n' T_n' U_n S_r' T_r' U_r' G_s P_p' I_i S_iw T_iw U_iw G_is I_j S_jw T_jw U_jw G_js R_w OC_o O_o B_h P_h N_h L_h E_h V_h G_h D_h O_h Z_h R_h I_h)) [0, 1, 2, 3, 4, 5, 6, 7, 8, 9, 10, 11, 12] ⟨rfl, rfl, rfl, rfl, rfl, rfl, rfl, rfl, rfl, rfl, rfl, rfl, rfl, trivial⟩, lapp_1 (gW cI cJ cZ q S_n' T_n' U_n S_r' T_r' U_r' G_s P_p' I_i S_iw T_iw U_iw G_is I_j S_jw T_jw U_jw G_js R_w OC_o O_o B_h P_h' N_h' L_h' E_h' V_h G_h D_h' O_h Z_h R_h I_h) 13, gW_13] at hpj2
  refine k_permP (ws' := gall (gW cI cJ cZ q S_n' T_n' U_n S_r' T_r' U_r' G_s P_p' I_i S_iw T_iw U_iw G_is I_j S_jw T_jw U_jw G_js R_w OC_o O_o B_h P_h' N_h' L_h' E_h' V_h G_h D_h' O_h Z_h R_h I_h)) C hpj2 ?_
  refine k_st (K := K) [.int (iI r2), .int (iI r)] _ rfl rfl ?_
  obtain ⟨rfl, c1, c0⟩ := hc
  obtain ⟨rfl, hN', m1, m0⟩ := hm
  have hX : Inv B_h P_h' ∧ SR B_h S_n' ∧ TR B_h P_h' T_n' ∧ PadR P_p' D_h' := by
    by_cases z : vBar B_h D_h P_h = 0
    · obtain ⟨rfl, p1, rfl⟩ := m1 z
      obtain ⟨s1, t1, rfl⟩ := c1 z
      exact ⟨p1, s1, t1, ⟨rfl, ⟨Int.le_refl 0, by show (0 : Int) ≤ 60; omega⟩, fun j j0 j1 => by have j1 : j < 0 := j1; omega⟩⟩
    · obtain ⟨rfl, rfl⟩ := m0 z
      obtain ⟨rfl, rfl, rfl⟩ := c0 z
      exact ⟨hI, hS, hT, hP⟩
  exact k_icmp_same C dL_law_324 961 (by decide) (nx _ ⟨S_n', T_n', U_n, S_r', T_r', U_r', G_s, P_p', I_i, S_iw, T_iw, U_iw, G_is, I_j, S_jw, T_jw, U_jw, G_js, R_w, OC_o, O_o, B_h, P_h', N_h', L_h', E_h', V_h, G_h, D_h', O_h, Z_h, R_h, I_h, List.Perm.refl _, hX.1, hZ, hX.2.1, hX.2.2.1, hG, hX.2.2.2, hN', hi, hj⟩)
set_option maxHeartbeats 4000000 in
set_option maxRecDepth 20000 in
theorem lst_state {D : va_G} {A : Nat → Prop} {l : Launch} {K : KT} {cI cJ cZ : ClassId} {q : Nat → Nat → Nat} {b cs sl : Nat} {f : Int → Int} {Ln i : Int} {ws : va_W} (C : KC cL_law RL wsL_law room_1 4 D (kT cI cJ cZ) A l false (fun _ _ => False) 0 0 K) (sld : ∀ {pc n : Nat} {lv : List (Nat × Value)} {st : List Value} {ws : va_W} {i : Int}, decode cL_law pc = .ok (.iaload, 1) → 0 ≤ i → i < Ln → pc + 1 = n → K cs sl n lv (.int (iI (f i)) :: st) ws → K cs sl pc lv (.int (iI i) :: .ref b :: st) ws) (hf : ∀ k, rI (f k)) (hcs : cs + 0 ≤ room_1.cells ∧ sl + 0 ≤ room_1.slots) (i0 : 0 ≤ i) (i1 : i + 4 < Ln) (hR : LRel cI cJ cZ q ws) (nx : ∀ ws', LRel cI cJ cZ q ws' → K cs sl 961 [(3, .int (iI i)), (2, .ref (q 13 0)), (1, .ref (q 0 0)), (0, .ref b)] [] ws') : K cs sl 329 [(3, .int (iI i)), (2, .ref (q 13 0)), (1, .ref (q 0 0)), (0, .ref b)] [] ws := by
  obtain ⟨S_n, T_n, U_n, S_r, T_r, U_r, G_s, P_p, I_i, S_iw, T_iw, U_iw, G_is, I_j, S_jw, T_jw, U_jw, G_js, R_w, OC_o, O_o, B_h, P_h, N_h, L_h, E_h, V_h, G_h, D_h, O_h, Z_h, R_h, I_h, hp, hI, hZ, hS, hT, hG, hP, hN, hi, hj⟩ := hR
  refine k_aload_n C dL_law_329 2 rfl rfl 330 rfl ?_
  refine k_aload_n C dL_law_330 3 rfl rfl 331 rfl ?_
  refine k_iload_n C dL_law_331 0 rfl rfl 332 rfl ?_
  refine k_iconst C dL_law_332 333 rfl ?_
  refine k_iadd C dL_law_333 334 rfl ?_
  refine sld dL_law_334 (by omega) (by omega) rfl ?_
  refine k_aload_n C dL_law_335 3 rfl rfl 336 rfl ?_
  refine k_iload_n C dL_law_336 0 rfl rfl 337 rfl ?_
  refine k_iconst C dL_law_337 338 rfl ?_
  refine k_iadd C dL_law_338 339 rfl ?_
  refine sld dL_law_339 (by omega) (by omega) rfl ?_
  have hM := c_X6_state (l := l) (D := D) (cI := cI) (cJ := cJ) (cZ := cZ) (q 0) (q 1) (q 2) (q 3) (q 4) (q 5) (q 8) (q 11) (q 12) S_n T_n U_n (f (i + 1)) (f (i + 2)) (fun (r : Int)  => r = vPl P_h (f (i + 1)) (f (i + 2))) (s_state hI.2.1 hT (hf _) (hf _) rfl)
  have hps := lw_split (G := (gW cI cJ cZ q S_n T_n U_n S_r T_r U_r G_s P_p I_i S_iw T_iw U_iw G_is I_j S_jw T_jw U_jw G_js R_w OC_o O_o B_h P_h N_h L_h E_h V_h G_h D_h O_h Z_h R_h I_h)) [0, 1] [2, 3, 4, 5, 6, 7, 8, 9, 10, 11, 12, 13] hp (by decide)
  rw [lapp_2 (gW cI cJ cZ q S_n T_n U_n S_r T_r U_r G_s P_p I_i S_iw T_iw U_iw G_is I_j S_jw T_jw U_jw G_js R_w OC_o O_o B_h P_h N_h L_h E_h V_h G_h D_h O_h Z_h R_h I_h) 0 1, gW_0, gW_1] at hps
  refine k_callP (wr := lapp (gW cI cJ cZ q S_n T_n U_n S_r T_r U_r G_s P_p I_i S_iw T_iw U_iw G_is I_j S_jw T_jw U_jw G_js R_w OC_o O_o B_h P_h N_h L_h E_h V_h G_h D_h O_h Z_h R_h I_h) [2, 3, 4, 5, 6, 7, 8, 9, 10, 11, 12, 13]) C dL_law_340 hM gL_law_X6_state rfl sg_X6_state 6 rfl rfl rfl (Nat.le_of_ble_eq_true rfl) ⟨⟨rfl, rfl⟩, Nat.le_of_ble_eq_true rfl, Nat.le_of_ble_eq_true rfl⟩ hcs hps cs sl ⟨rfl, rfl⟩ 343 rfl (fun v w1 hq => ?_)
  obtain ⟨r, rfl, rfl, hc⟩ := hq
  have hpj := lw_join (G := (gW cI cJ cZ q S_n T_n U_n S_r T_r U_r G_s P_p I_i S_iw T_iw U_iw G_is I_j S_jw T_jw U_jw G_js R_w OC_o O_o B_h P_h N_h L_h E_h V_h G_h D_h O_h Z_h R_h I_h)) [2, 3, 4, 5, 6, 7, 8, 9, 10, 11, 12, 13] [0, 1] (by decide)
  rw [lapp_agr (G := (gW cI cJ cZ q S_n T_n U_n S_r T_r U_r G_s P_p I_i S_iw T_iw U_iw G_is I_j S_jw T_jw U_jw G_js R_w OC_o O_o B_h P_h N_h L_h E_h V_h G_h D_h O_h Z_h R_h I_h)) (G' := (gW cI cJ cZ q S_n T_n U_n S_r T_r U_r G_s P_p I_i S_iw T_iw U_iw G_is I_j S_jw T_jw U_jw G_js R_w OC_o O_o B_h P_h N_h L_h E_h V_h G_h D_h O_h Z_h R_h I_h)) [2, 3, 4, 5, 6, 7, 8, 9, 10, 11, 12, 13] ⟨rfl, rfl, rfl, rfl, rfl, rfl, rfl, rfl, rfl, rfl, rfl, rfl, trivial⟩, lapp_2 (gW cI cJ cZ q S_n T_n U_n S_r T_r U_r G_s P_p I_i S_iw T_iw U_iw G_is I_j S_jw T_jw U_jw G_js R_w OC_o O_o B_h P_h N_h L_h E_h V_h G_h D_h O_h Z_h R_h I_h) 0 1, gW_0, gW_1] at hpj
  refine k_permP (ws' := gall (gW cI cJ cZ q S_n T_n U_n S_r T_r U_r G_s P_p I_i S_iw T_iw U_iw G_is I_j S_jw T_jw U_jw G_js R_w OC_o O_o B_h P_h N_h L_h E_h V_h G_h D_h O_h Z_h R_h I_h)) C hpj ?_
  refine k_st (K := K) [.int (iI r)] _ rfl rfl ?_
  refine k_aload_n C dL_law_343 1 rfl rfl 344 rfl ?_
  refine k_aload_n C dL_law_344 3 rfl rfl 345 rfl ?_
  refine k_iload_n C dL_law_345 0 rfl rfl 346 rfl ?_
  refine k_iconst C dL_law_346 347 rfl ?_
  refine k_iadd C dL_law_347 348 rfl ?_
  refine sld dL_law_348 (by omega) (by omega) rfl ?_
  refine k_aload_n C dL_law_349 3 rfl rfl 350 rfl ?_
  refine k_iload_n C dL_law_350 0 rfl rfl 351 rfl ?_
  refine k_iconst C dL_law_351 352 rfl ?_
  refine k_iadd C dL_law_352 353 rfl ?_
  refine sld dL_law_353 (by omega) (by omega) rfl ?_
  have hM := c_X7_state (l := l) (D := D) (cI := cI) (cJ := cJ) (cZ := cZ) (q 13) B_h P_h N_h L_h E_h V_h G_h D_h O_h Z_h R_h I_h (f (i + 1)) (f (i + 2)) (fun (r : Int)  => r = vPl P_h (f (i + 1)) (f (i + 2))) (s_X7_state (hf _) (hf _) rfl)
  have hps := lw_split (G := (gW cI cJ cZ q S_n T_n U_n S_r T_r U_r G_s P_p I_i S_iw T_iw U_iw G_is I_j S_jw T_jw U_jw G_js R_w OC_o O_o B_h P_h N_h L_h E_h V_h G_h D_h O_h Z_h R_h I_h)) [13] [0, 1, 2, 3, 4, 5, 6, 7, 8, 9, 10, 11, 12] (List.Perm.refl _) (by decide)
  rw [lapp_1 (gW cI cJ cZ q S_n T_n U_n S_r T_r U_r G_s P_p I_i S_iw T_iw U_iw G_is I_j S_jw T_jw U_jw G_js R_w OC_o O_o B_h P_h N_h L_h E_h V_h G_h D_h O_h Z_h R_h I_h) 13, gW_13] at hps
  refine k_callP (wr := lapp (gW cI cJ cZ q S_n T_n U_n S_r T_r U_r G_s P_p I_i S_iw T_iw U_iw G_is I_j S_jw T_jw U_jw G_js R_w OC_o O_o B_h P_h N_h L_h E_h V_h G_h D_h O_h Z_h R_h I_h) [0, 1, 2, 3, 4, 5, 6, 7, 8, 9, 10, 11, 12]) C dL_law_354 hM gL_law_X7_state rfl sg_X7_state 7 rfl rfl rfl (Nat.le_of_ble_eq_true rfl) ⟨⟨rfl, rfl⟩, Nat.le_of_ble_eq_true rfl, Nat.le_of_ble_eq_true rfl⟩ hcs hps cs sl ⟨rfl, rfl⟩ 357 rfl (fun v w1 hq => ?_)
  obtain ⟨r2, rfl, rfl, hm⟩ := hq
  have hpj2 := lw_join (G := (gW cI cJ cZ q S_n T_n U_n S_r T_r U_r G_s P_p I_i S_iw T_iw U_iw G_is I_j S_jw T_jw U_jw G_js R_w OC_o O_o B_h P_h N_h L_h E_h V_h G_h D_h O_h Z_h R_h I_h)) [0, 1, 2, 3, 4, 5, 6, 7, 8, 9, 10, 11, 12] [13] (by decide)
  rw [lapp_agr (G := (gW cI cJ cZ q S_n T_n U_n S_r T_r U_r G_s P_p I_i S_iw T_iw U_iw G_is I_j S_jw T_jw U_jw G_js R_w OC_o O_o B_h P_h N_h L_h E_h V_h G_h D_h O_h Z_h R_h I_h)) (G' := (gW cI cJ cZ q S_n T_n U_n S_r T_r U_r G_s P_p I_i S_iw T_iw U_iw G_is I_j S_jw T_jw U_jw G_js R_w OC_o O_o B_h P_h N_h L_h E_h V_h G_h D_h O_h Z_h R_h I_h)) [0, 1, 2, 3, 4, 5, 6, 7, 8, 9, 10, 11, 12] ⟨rfl, rfl, rfl, rfl, rfl, rfl, rfl, rfl, rfl, rfl, rfl, rfl, rfl, trivial⟩, lapp_1 (gW cI cJ cZ q S_n T_n U_n S_r T_r U_r G_s P_p I_i S_iw T_iw U_iw G_is I_j S_jw T_jw U_jw G_js R_w OC_o O_o B_h P_h N_h L_h E_h V_h G_h D_h O_h Z_h R_h I_h) 13, gW_13] at hpj2
  refine k_permP (ws' := gall (gW cI cJ cZ q S_n T_n U_n S_r T_r U_r G_s P_p I_i S_iw T_iw U_iw G_is I_j S_jw T_jw U_jw G_js R_w OC_o O_o B_h P_h N_h L_h E_h V_h G_h D_h O_h Z_h R_h I_h)) C hpj2 ?_
  refine k_st (K := K) [.int (iI r2), .int (iI r)] _ rfl rfl ?_
  subst hc
  subst hm
  exact k_icmp_same C dL_law_357 961 (by decide) (nx _ ⟨S_n, T_n, U_n, S_r, T_r, U_r, G_s, P_p, I_i, S_iw, T_iw, U_iw, G_is, I_j, S_jw, T_jw, U_jw, G_js, R_w, OC_o, O_o, B_h, P_h, N_h, L_h, E_h, V_h, G_h, D_h, O_h, Z_h, R_h, I_h, List.Perm.refl _, hI, hZ, hS, hT, hG, hP, hN, hi, hj⟩)
