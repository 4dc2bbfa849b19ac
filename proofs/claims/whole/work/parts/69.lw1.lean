/-! worlds up to order -/
theorem kp_P {D : va_G} {H : Heap} {ws ws' : va_W} (hp : ws.Perm ws') (h : va_P D vwCl ws H) : va_P D vwCl ws' H := fun k q hk => by
  have hm : q ∈ ws := hp.mem_iff.mpr (List.mem_of_getElem? hk)
  obtain ⟨j, hj⟩ := List.mem_iff_getElem?.mp hm
  exact h j q hj
theorem kp_nd {ws : va_W} : (∀ (i j : Nat) (p q : Nat × va_E), ws[i]? = some p → ws[j]? = some q → p.1 = q.1 → i = j) ↔ (ws.map (fun x => x.1)).Nodup := by
  constructor
  · intro h
    rw [List.nodup_iff_pairwise_ne, List.pairwise_iff_getElem]
    intro i j hi hj hij e
    rw [List.getElem_map, List.getElem_map] at e
    rw [List.length_map] at hi hj
    have := h i j _ _ (List.getElem?_eq_getElem hi) (List.getElem?_eq_getElem hj) e
    omega
  · intro h i j p q hi hj e
    rw [List.nodup_iff_pairwise_ne, List.pairwise_iff_getElem] at h
    obtain ⟨li, ei⟩ := List.getElem?_eq_some_iff.mp hi
    obtain ⟨lj, ej⟩ := List.getElem?_eq_some_iff.mp hj
    rcases Nat.lt_trichotomy i j with a | a | a
    · refine absurd ?_ (h i j (by rw [List.length_map]; exact li) (by rw [List.length_map]; exact lj) a)
      rw [List.getElem_map, List.getElem_map, ei, ej, e]
    · exact a
    · refine absurd ?_ (h j i (by rw [List.length_map]; exact lj) (by rw [List.length_map]; exact li) a)
      rw [List.getElem_map, List.getElem_map, ei, ej, e]
theorem kp_D {A : Nat → Prop} {ws ws' : va_W} (hp : ws.Perm ws') (h : va_D A ws) : va_D A ws' :=
  ⟨kp_nd.mpr ((hp.map (fun x => x.1)).nodup_iff.mp (kp_nd.mp h.1)), fun k q hk => by
    have hm : q ∈ ws := hp.mem_iff.mpr (List.mem_of_getElem? hk)
    obtain ⟨j, hj⟩ := List.mem_iff_getElem?.mp hm
    exact h.2 j q hj⟩
def lapp (G : Nat → va_W) : List Nat → va_W
  | [] => []
  | i :: is => is.foldl (fun a j => a ++ G j) (G i)
theorem lapp_fm {G : Nat → va_W} {is : List Nat} : lapp G is = is.flatMap G := by
  cases is with
  | nil => rfl
  | cons i is =>
    show is.foldl (fun a j => a ++ G j) (G i) = G i ++ is.flatMap G
    generalize G i = w
    induction is generalizing w with
    | nil => rw [List.flatMap_nil, List.append_nil]; rfl
    | cons j is ih => rw [List.foldl_cons, ih, List.flatMap_cons, List.append_assoc]
def gall (G : Nat → va_W) : va_W := [0, 1, 2, 3, 4, 5, 6, 7, 8, 9, 10, 11, 12, 13].flatMap G
theorem lw_split {ws : va_W} {G : Nat → va_W} (is js : List Nat) (hp : ws.Perm (gall G)) (h : [0, 1, 2, 3, 4, 5, 6, 7, 8, 9, 10, 11, 12, 13].Perm (is ++ js)) : ws.Perm (lapp G is ++ lapp G js) := by
  refine hp.trans ?_
  rw [lapp_fm, lapp_fm, ← List.flatMap_append]
  exact List.Perm.flatMap_right G h
theorem lw_join {G : Nat → va_W} (js is : List Nat) (h : (js ++ is).Perm [0, 1, 2, 3, 4, 5, 6, 7, 8, 9, 10, 11, 12, 13]) : (lapp G js ++ lapp G is).Perm (gall G) := by
  rw [lapp_fm, lapp_fm, ← List.flatMap_append]
  exact List.Perm.flatMap_right G h
theorem lapp_split {G : Nat → va_W} (ks is js : List Nat) (h : ks.Perm (is ++ js)) : (lapp G ks).Perm (lapp G is ++ lapp G js) := by
  rw [lapp_fm, lapp_fm, lapp_fm, ← List.flatMap_append]
  exact List.Perm.flatMap_right G h
theorem lapp_join {G : Nat → va_W} (js is ks : List Nat) (h : (js ++ is).Perm ks) : (lapp G js ++ lapp G is).Perm (lapp G ks) := by
  rw [lapp_fm, lapp_fm, lapp_fm, ← List.flatMap_append]
  exact List.Perm.flatMap_right G h
theorem lapp_1 (G : Nat → va_W) (a0 : Nat) : lapp G [a0] = G a0 := rfl
theorem lapp_2 (G : Nat → va_W) (a0 a1 : Nat) : lapp G [a0, a1] = (G a0 ++ G a1) := rfl
theorem lapp_3 (G : Nat → va_W) (a0 a1 a2 : Nat) : lapp G [a0, a1, a2] = ((G a0 ++ G a1) ++ G a2) := rfl
theorem lapp_4 (G : Nat → va_W) (a0 a1 a2 a3 : Nat) : lapp G [a0, a1, a2, a3] = (((G a0 ++ G a1) ++ G a2) ++ G a3) := rfl
theorem lapp_5 (G : Nat → va_W) (a0 a1 a2 a3 a4 : Nat) : lapp G [a0, a1, a2, a3, a4] = ((((G a0 ++ G a1) ++ G a2) ++ G a3) ++ G a4) := rfl
theorem lapp_6 (G : Nat → va_W) (a0 a1 a2 a3 a4 a5 : Nat) : lapp G [a0, a1, a2, a3, a4, a5] = (((((G a0 ++ G a1) ++ G a2) ++ G a3) ++ G a4) ++ G a5) := rfl
theorem lapp_7 (G : Nat → va_W) (a0 a1 a2 a3 a4 a5 a6 : Nat) : lapp G [a0, a1, a2, a3, a4, a5, a6] = ((((((G a0 ++ G a1) ++ G a2) ++ G a3) ++ G a4) ++ G a5) ++ G a6) := rfl
theorem lapp_8 (G : Nat → va_W) (a0 a1 a2 a3 a4 a5 a6 a7 : Nat) : lapp G [a0, a1, a2, a3, a4, a5, a6, a7] = (((((((G a0 ++ G a1) ++ G a2) ++ G a3) ++ G a4) ++ G a5) ++ G a6) ++ G a7) := rfl
theorem lapp_9 (G : Nat → va_W) (a0 a1 a2 a3 a4 a5 a6 a7 a8 : Nat) : lapp G [a0, a1, a2, a3, a4, a5, a6, a7, a8] = ((((((((G a0 ++ G a1) ++ G a2) ++ G a3) ++ G a4) ++ G a5) ++ G a6) ++ G a7) ++ G a8) := rfl
theorem lapp_10 (G : Nat → va_W) (a0 a1 a2 a3 a4 a5 a6 a7 a8 a9 : Nat) : lapp G [a0, a1, a2, a3, a4, a5, a6, a7, a8, a9] = (((((((((G a0 ++ G a1) ++ G a2) ++ G a3) ++ G a4) ++ G a5) ++ G a6) ++ G a7) ++ G a8) ++ G a9) := rfl
def Agr (G G' : Nat → va_W) : List Nat → Prop
  | [] => True
  | j :: js => G j = G' j ∧ Agr G G' js
theorem lapp_agr {G G' : Nat → va_W} (is : List Nat) (h : Agr G G' is) : lapp G is = lapp G' is := by
  rw [lapp_fm, lapp_fm]
  induction is with
  | nil => rfl
  | cons j is ih => rw [List.flatMap_cons, List.flatMap_cons, h.1, ih h.2]
section KP
variable {cc : ByteArray} {own : String} {Ts : List Cond} {R : Room} {nL : Nat} {D : va_G} {tys : List (ClassId × FieldType)} {A : Nat → Prop} {l : Launch} {ini : Bool} {RP : Option Value → va_W → Prop} {mc ms : Nat} {K : KT} {cs sl pc : Nat} {lv : List (Nat × Value)} {st : List Value} {ws : va_W}
theorem k_permP {ws' : va_W} (C : KC cc own Ts R nL D tys A l ini RP mc ms K) (hp : ws.Perm ws') (k : K cs sl pc lv st ws') : K cs sl pc lv st ws := by
  obtain ⟨p, e, s, m, args, below, meth, c, Q, ⟨hx, hb, hml, hown, hts⟩, hK, hA, hin, hNk, rfl, hret⟩ := C
  intro H locs ls hP hD hS hl
  exact k H locs ls (kp_P hp hP) (kp_D hp hD) hS hl
theorem k_icmp_same {x : Int32} {off : Int} (C : KC cc own Ts R nL D tys A l ini RP mc ms K) (hd : decode cc pc = .ok (.if_icmp .eq off, 3)) (tgt : Nat) (ht : (pc : Int) + off = (tgt : Int)) (kt : K cs sl tgt lv st ws) : K cs sl pc lv (.int x :: .int x :: st) ws := by
  obtain ⟨p, e, s, m, args, below, meth, c, Q, ⟨hx, hb, hml, hown, hts⟩, hK, hA, hin, hNk, rfl, hret⟩ := C
  intro H locs ls hP hD hS hl
  exact lv_icmp_eq hx hb hd ht (fun _ => kt H locs ls hP hD hS hl) (fun h => absurd rfl h)
theorem k_lcmp_same {x : Int64} (C : KC cc own Ts R nL D tys A l ini RP mc ms K) (hd : decode cc pc = .ok (.lcmp, 1)) (n : Nat) (hn : pc + 1 = n) (k : K cs sl n lv (.int (iI 0) :: st) ws) : K cs sl pc lv (.long x :: .long x :: st) ws := by
  obtain ⟨p, e, s, m, args, below, meth, c, Q, ⟨hx, hb, hml, hown, hts⟩, hK, hA, hin, hNk, rfl, hret⟩ := C
  intro H locs ls hP hD hS hl
  subst hn
  refine W.lcmp hx hb hd ?_
  rw [show lg_cmp x x = iI 0 by unfold lg_cmp; rw [if_neg ((fun h => absurd (Int64.lt_iff_toInt_lt.mp h) (Int.lt_irrefl _))), if_pos rfl]; rfl]
  exact k H locs ls hP hD hS hl
theorem k_callP {y : MethodName} {wsy ws' : List Cond} {rm : Room} {As rest : List Value} {wc wr : va_W} {RPc : Option Value → va_W → Prop} {ix maxL mc1 ms1 : Nat} {bytes : ByteArray} {ret : Option FieldType} {b : Nat} (C : KC cc own Ts R nL D tys A l ini RP mc ms K) (hd : decode cc pc = .ok (.invokevirtual ix, 3)) (hM : KM l D tys mc1 ms1 y wsy rm (.ref b :: As) wc RPc) (hG : GoodIn Ts (wsV own ix y.cls y wsy)) (hw : wsy = Cond.code y bytes maxL ret :: ws') (hsig : y.cls ≠ "java/lang/invoke/MethodHandle" ∧ y.cls ≠ "java/lang/invoke/VarHandle" ∧ (parseMethodDescriptor y.desc).map (fun d => d.parameters.length) = some As.length) (ci : Nat) {T : u_T} {N : Nat} (hc : vwCl[ci]? = some (y.cls, T, N)) {fs : List Value} (hrec : wc[0]? = some (b, .inr (ci, fs))) (hst : st = As.reverse ++ .ref b :: rest) (hroom : ((rest.map fun v => v.category).sum ≤ 8)) (hrm : (rm.cells = mc1 ∧ rm.slots = ms1) ∧ (rm.frames + 1 ≤ R.frames ∧ 8 + (maxL + 11) + rm.locals ≤ R.locals)) (hcs : cs + mc1 ≤ R.cells ∧ sl + ms1 ≤ R.slots) (hp : ws.Perm (wc ++ wr)) (cs2 sl2 : Nat) (hc2 : cs + mc1 = cs2 ∧ sl + ms1 = sl2) (n : Nat) (hn : pc + 3 = n) (kk : ∀ v w1, RPc v w1 → K cs2 sl2 n lv (v.toList ++ rest) (wr ++ w1)) : K cs sl pc lv st ws := by
  refine k_permP C hp ?_
  refine k_callV C hd hM hG hw hsig ci hc hrec hst hroom hrm hcs (List.range wc.length) ((List.range wr.length).map (wc.length + ·)) ?_ (kn_range _) ?_ (kn_nd_lt ?_) ?_ cs2 sl2 hc2 n hn (fun v w1 hq => ?_)
  · refine List.ext_getElem? (fun i => ?_)
    rw [List.getElem?_map, List.getElem?_map]
    by_cases h : i < wc.length
    · rw [List.getElem?_range h, Option.map_some, List.getElem?_append_left h, List.getElem?_eq_getElem h, Option.map_some]
    · rw [List.getElem?_eq_none (by rw [List.length_range]; omega), List.getElem?_eq_none (by omega)]; rfl
  · rw [List.all_eq_true]
    intro i hi
    obtain ⟨j, hj, rfl⟩ := List.mem_map.mp hi
    rw [List.mem_range] at hj
    rw [List.length_append, decide_eq_true_eq]; omega
  · refine List.Pairwise.map _ (fun a b h => ?_) List.nodup_range
    omega
  · intro i hi
    obtain ⟨j, hj, rfl⟩ := List.mem_map.mp hi
    rw [List.mem_range]; omega
  · have e : ((List.range wr.length).map (wc.length + ·)).filterMap (fun i => (wc ++ wr)[i]?) = wr := by
      rw [List.filterMap_map]
      have h2 := kn_fm wr []
      rw [List.append_nil] at h2
      refine (congrArg (fun f => List.filterMap f (List.range wr.length)) (funext fun i => ?_)).trans h2
      show (wc ++ wr)[wc.length + i]? = wr[i]?
      rw [List.getElem?_append_right (by omega)]
      congr 1
      omega
    rw [e]
    exact kk v w1 hq
theorem k_callS0 {y : MethodName} {wsy ws' : List Cond} {rm : Room} {As rest : List Value} {RPc : Option Value → va_W → Prop} {ix maxL mc1 ms1 : Nat} {bytes : ByteArray} {ret : Option FieldType} (C : KC cc own Ts R nL D tys A l ini RP mc ms K) (hd : decode cc pc = .ok (.invokestatic ix, 3)) (hM : KM l D tys mc1 ms1 y wsy rm As [] RPc) (hG : GoodIn Ts (va_wsS own ix y wsy)) (hw : wsy = Cond.code y bytes maxL ret :: ws') (hsig : y.cls ≠ "java/lang/invoke/MethodHandle" ∧ y.cls ≠ "java/lang/invoke/VarHandle" ∧ (parseMethodDescriptor y.desc).map (fun d => d.parameters.length) = some As.length) (hst : st = As.reverse ++ rest) (hroom : ((rest.map fun v => v.category).sum ≤ 8)) (hrm : (rm.cells = mc1 ∧ rm.slots = ms1) ∧ (rm.frames + 1 ≤ R.frames ∧ 8 + (maxL + 11) + rm.locals ≤ R.locals)) (hcs : cs + mc1 ≤ R.cells ∧ sl + ms1 ≤ R.slots) (cs2 sl2 : Nat) (hc2 : cs + mc1 = cs2 ∧ sl + ms1 = sl2) (n : Nat) (hn : pc + 3 = n) (kk : ∀ v w1, RPc v w1 → K cs2 sl2 n lv (v.toList ++ rest) (ws ++ w1)) : K cs sl pc lv st ws := by
  refine k_callS C hd hM hG hw hsig hst hroom hrm hcs [] (List.range ws.length) rfl rfl ?_ (kn_range _) (fun i _ => List.not_mem_nil) cs2 sl2 hc2 n hn (fun v w1 hq => ?_)
  · rw [List.all_eq_true]
    intro i hi
    rw [List.mem_range] at hi
    rw [decide_eq_true_eq]; exact hi
  · have e := kn_fm ws []
    rw [List.append_nil] at e
    rw [e]
    exact kk v w1 hq
end KP
/-! the law's relation -/
def gW (cI cJ cZ : ClassId) (q : Nat → Nat → Nat) (S_n : gWS) (T_n : gWT) (U_n : gWU) (S_r : gWS) (T_r : gWT) (U_r : gWU) (G_s : gGG) (P_p : gPP) (I_i : gII) (S_iw : gWS) (T_iw : gWT) (U_iw : gWU) (G_is : gGG) (I_j : gII) (S_jw : gWS) (T_jw : gWT) (U_jw : gWU) (G_js : gGG) (R_w : gRR) (OC_o : gOOC) (O_o : gOO) (B_h : gMB) (P_h : gMP) (N_h : gMN) (L_h : gML) (E_h : gME) (V_h : gMV) (G_h : gMG) (D_h : gMD) (O_h : gMO) (Z_h : gMZ) (R_h : gMR) (I_h : gMI) : Nat → va_W := fun i => match i with
  | 0 => wdX cI cJ cZ (q 0) (q 1) (q 2) (q 3) (q 4) (q 5) (q 8) (q 11) (q 12)
  | 1 => wdW cI cJ cZ (q 1) S_n T_n U_n
  | 2 => wdW cI cJ cZ (q 2) S_r T_r U_r
  | 3 => wdG cI cJ cZ (q 3) G_s
  | 4 => wdP cI cJ cZ (q 4) P_p
  | 5 => wdI cI cJ cZ (q 5) (q 6) (q 7) I_i
  | 6 => wdW cI cJ cZ (q 6) S_iw T_iw U_iw
  | 7 => wdG cI cJ cZ (q 7) G_is
  | 8 => wdI cI cJ cZ (q 8) (q 9) (q 10) I_j
  | 9 => wdW cI cJ cZ (q 9) S_jw T_jw U_jw
  | 10 => wdG cI cJ cZ (q 10) G_js
  | 11 => wdR cI cJ cZ (q 11) R_w
  | 12 => wdO cI cJ cZ (q 12) OC_o O_o
  | _ => wdM cI cJ cZ (q 13) B_h P_h N_h L_h E_h V_h G_h D_h O_h Z_h R_h I_h
theorem gW_0 (cI cJ cZ : ClassId) (q : Nat → Nat → Nat) (S_n : gWS) (T_n : gWT) (U_n : gWU) (S_r : gWS) (T_r : gWT) (U_r : gWU) (G_s : gGG) (P_p : gPP) (I_i : gII) (S_iw : gWS) (T_iw : gWT) (U_iw : gWU) (G_is : gGG) (I_j : gII) (S_jw : gWS) (T_jw : gWT) (U_jw : gWU) (G_js : gGG) (R_w : gRR) (OC_o : gOOC) (O_o : gOO) (B_h : gMB) (P_h : gMP) (N_h : gMN) (L_h : gML) (E_h : gME) (V_h : gMV) (G_h : gMG) (D_h : gMD) (O_h : gMO) (Z_h : gMZ) (R_h : gMR) (I_h : gMI) : gW cI cJ cZ q S_n T_n U_n S_r T_r U_r G_s P_p I_i S_iw T_iw U_iw G_is I_j S_jw T_jw U_jw G_js R_w OC_o O_o B_h P_h N_h L_h E_h V_h G_h D_h O_h Z_h R_h I_h 0 = wdX cI cJ cZ (q 0) (q 1) (q 2) (q 3) (q 4) (q 5) (q 8) (q 11) (q 12) := rfl
theorem gW_1 (cI cJ cZ : ClassId) (q : Nat → Nat → Nat) (S_n : gWS) (T_n : gWT) (U_n : gWU) (S_r : gWS) (T_r : gWT) (U_r : gWU) (G_s : gGG) (P_p : gPP) (I_i : gII) (S_iw : gWS) (T_iw : gWT) (U_iw : gWU) (G_is : gGG) (I_j : gII) (S_jw : gWS) (T_jw : gWT) (U_jw : gWU) (G_js : gGG) (R_w : gRR) (OC_o : gOOC) (O_o : gOO) (B_h : gMB) (P_h : gMP) (N_h : gMN) (L_h : gML) (E_h : gME) (V_h : gMV) (G_h : gMG) (D_h : gMD) (O_h : gMO) (Z_h : gMZ) (R_h : gMR) (I_h : gMI) : gW cI cJ cZ q S_n T_n U_n S_r T_r U_r G_s P_p I_i S_iw T_iw U_iw G_is I_j S_jw T_jw U_jw G_js R_w OC_o O_o B_h P_h N_h L_h E_h V_h G_h D_h O_h Z_h R_h I_h 1 = wdW cI cJ cZ (q 1) S_n T_n U_n := rfl
theorem gW_2 (cI cJ cZ : ClassId) (q : Nat → Nat → Nat) (S_n : gWS) (T_n : gWT) (U_n : gWU) (S_r : gWS) (T_r : gWT) (U_r : gWU) (G_s : gGG) (P_p : gPP) (I_i : gII) (S_iw : gWS) (T_iw : gWT) (U_iw : gWU) (G_is : gGG) (I_j : gII) (S_jw : gWS) (T_jw : gWT) (U_jw : gWU) (G_js : gGG) (R_w : gRR) (OC_o : gOOC) (O_o : gOO) (B_h : gMB) (P_h : gMP) (N_h : gMN) (L_h : gML) (E_h : gME) (V_h : gMV) (G_h : gMG) (D_h : gMD) (O_h : gMO) (Z_h : gMZ) (R_h : gMR) (I_h : gMI) : gW cI cJ cZ q S_n T_n U_n S_r T_r U_r G_s P_p I_i S_iw T_iw U_iw G_is I_j S_jw T_jw U_jw G_js R_w OC_o O_o B_h P_h N_h L_h E_h V_h G_h D_h O_h Z_h R_h I_h 2 = wdW cI cJ cZ (q 2) S_r T_r U_r := rfl
theorem gW_3 (cI cJ cZ : ClassId) (q : Nat → Nat → Nat) (S_n : gWS) (T_n : gWT) (U_n : gWU) (S_r : gWS) (T_r : gWT) (U_r : gWU) (G_s : gGG) (P_p : gPP) (I_i : gII) (S_iw : gWS) (T_iw : gWT) (U_iw : gWU) (G_is : gGG) (I_j : gII) (S_jw : gWS) (T_jw : gWT) (U_jw : gWU) (G_js : gGG) (R_w : gRR) (OC_o : gOOC) (O_o : gOO) (B_h : gMB) (P_h : gMP) (N_h : gMN) (L_h : gML) (E_h : gME) (V_h : gMV) (G_h : gMG) (D_h : gMD) (O_h : gMO) (Z_h : gMZ) (R_h : gMR) (I_h : gMI) : gW cI cJ cZ q S_n T_n U_n S_r T_r U_r G_s P_p I_i S_iw T_iw U_iw G_is I_j S_jw T_jw U_jw G_js R_w OC_o O_o B_h P_h N_h L_h E_h V_h G_h D_h O_h Z_h R_h I_h 3 = wdG cI cJ cZ (q 3) G_s := rfl
theorem gW_4 (cI cJ cZ : ClassId) (q : Nat → Nat → Nat) (S_n : gWS) (T_n : gWT) (U_n : gWU) (S_r : gWS) (T_r : gWT) (U_r : gWU) (G_s : gGG) (P_p : gPP) (I_i : gII) (S_iw : gWS) (T_iw : gWT) (U_iw : gWU) (G_is : gGG) (I_j : gII) (S_jw : gWS) (T_jw : gWT) (U_jw : gWU) (G_js : gGG) (R_w : gRR) (OC_o : gOOC) (O_o : gOO) (B_h : gMB) (P_h : gMP) (N_h : gMN) (L_h : gML) (E_h : gME) (V_h : gMV) (G_h : gMG) (D_h : gMD) (O_h : gMO) (Z_h : gMZ) (R_h : gMR) (I_h : gMI) : gW cI cJ cZ q S_n T_n U_n S_r T_r U_r G_s P_p I_i S_iw T_iw U_iw G_is I_j S_jw T_jw U_jw G_js R_w OC_o O_o B_h P_h N_h L_h E_h V_h G_h D_h O_h Z_h R_h I_h 4 = wdP cI cJ cZ (q 4) P_p := rfl
theorem gW_5 (cI cJ cZ : ClassId) (q : Nat → Nat → Nat) (S_n : gWS) (T_n : gWT) (U_n : gWU) (S_r : gWS) (T_r : gWT) (U_r : gWU) (G_s : gGG) (P_p : gPP) (I_i : gII) (S_iw : gWS) (T_iw : gWT) (U_iw : gWU) (G_is : gGG) (I_j : gII) (S_jw : gWS) (T_jw : gWT) (U_jw : gWU) (G_js : gGG) (R_w : gRR) (OC_o : gOOC) (O_o : gOO) (B_h : gMB) (P_h : gMP) (N_h : gMN) (L_h : gML) (E_h : gME) (V_h : gMV) (G_h : gMG) (D_h : gMD) (O_h : gMO) (Z_h : gMZ) (R_h : gMR) (I_h : gMI) : gW cI cJ cZ q S_n T_n U_n S_r T_r U_r G_s P_p I_i S_iw T_iw U_iw G_is I_j S_jw T_jw U_jw G_js R_w OC_o O_o B_h P_h N_h L_h E_h V_h G_h D_h O_h Z_h R_h I_h 5 = wdI cI cJ cZ (q 5) (q 6) (q 7) I_i := rfl
theorem gW_6 (cI cJ cZ : ClassId) (q : Nat → Nat → Nat) (S_n : gWS) (T_n : gWT) (U_n : gWU) (S_r : gWS) (T_r : gWT) (U_r : gWU) (G_s : gGG) (P_p : gPP) (I_i : gII) (S_iw : gWS) (T_iw : gWT) (U_iw : gWU) (G_is : gGG) (I_j : gII) (S_jw : gWS) (T_jw : gWT) (U_jw : gWU) (G_js : gGG) (R_w : gRR) (OC_o : gOOC) (O_o : gOO) (B_h : gMB) (P_h : gMP) (N_h : gMN) (L_h : gML) (E_h : gME) (V_h : gMV) (G_h : gMG) (D_h : gMD) (O_h : gMO) (Z_h : gMZ) (R_h : gMR) (I_h : gMI) : gW cI cJ cZ q S_n T_n U_n S_r T_r U_r G_s P_p I_i S_iw T_iw U_iw G_is I_j S_jw T_jw U_jw G_js R_w OC_o O_o B_h P_h N_h L_h E_h V_h G_h D_h O_h Z_h R_h I_h 6 = wdW cI cJ cZ (q 6) S_iw T_iw U_iw := rfl
theorem gW_7 (cI cJ cZ : ClassId) (q : Nat → Nat → Nat) (S_n : gWS) (T_n : gWT) (U_n : gWU) (S_r : gWS) (T_r : gWT) (U_r : gWU) (G_s : gGG) (P_p : gPP) (I_i : gII) (S_iw : gWS) (T_iw : gWT) (U_iw : gWU) (G_is : gGG) (I_j : gII) (S_jw : gWS) (T_jw : gWT) (U_jw : gWU) (G_js : gGG) (R_w : gRR) (OC_o : gOOC) (O_o : gOO) (B_h : gMB) (P_h : gMP) (N_h : gMN) (L_h : gML) (E_h : gME) (V_h : gMV) (G_h : gMG) (D_h : gMD) (O_h : gMO) (Z_h : gMZ) (R_h : gMR) (I_h : gMI) : gW cI cJ cZ q S_n T_n U_n S_r T_r U_r G_s P_p I_i S_iw T_iw U_iw G_is I_j S_jw T_jw U_jw G_js R_w OC_o O_o B_h P_h N_h L_h E_h V_h G_h D_h O_h Z_h R_h I_h 7 = wdG cI cJ cZ (q 7) G_is := rfl
theorem gW_8 (cI cJ cZ : ClassId) (q : Nat → Nat → Nat) (S_n : gWS) (T_n : gWT) (U_n : gWU) (S_r : gWS) (T_r : gWT) (U_r : gWU) (G_s : gGG) (P_p : gPP) (I_i : gII) (S_iw : gWS) (T_iw : gWT) (U_iw : gWU) (G_is : gGG) (I_j : gII) (S_jw : gWS) (T_jw : gWT) (U_jw : gWU) (G_js : gGG) (R_w : gRR) (OC_o : gOOC) (O_o : gOO) (B_h : gMB) (P_h : gMP) (N_h : gMN) (L_h : gML) (E_h : gME) (V_h : gMV) (G_h : gMG) (D_h : gMD) (O_h : gMO) (Z_h : gMZ) (R_h : gMR) (I_h : gMI) : gW cI cJ cZ q S_n T_n U_n S_r T_r U_r G_s P_p I_i S_iw T_iw U_iw G_is I_j S_jw T_jw U_jw G_js R_w OC_o O_o B_h P_h N_h L_h E_h V_h G_h D_h O_h Z_h R_h I_h 8 = wdI cI cJ cZ (q 8) (q 9) (q 10) I_j := rfl
theorem gW_9 (cI cJ cZ : ClassId) (q : Nat → Nat → Nat) (S_n : gWS) (T_n : gWT) (U_n : gWU) (S_r : gWS) (T_r : gWT) (U_r : gWU) (G_s : gGG) (P_p : gPP) (I_i : gII) (S_iw : gWS) (T_iw : gWT) (U_iw : gWU) (G_is : gGG) (I_j : gII) (S_jw : gWS) (T_jw : gWT) (U_jw : gWU) (G_js : gGG) (R_w : gRR) (OC_o : gOOC) (O_o : gOO) (B_h : gMB) (P_h : gMP) (N_h : gMN) (L_h : gML) (E_h : gME) (V_h : gMV) (G_h : gMG) (D_h : gMD) (O_h : gMO) (Z_h : gMZ) (R_h : gMR) (I_h : gMI) : gW cI cJ cZ q S_n T_n U_n S_r T_r U_r G_s P_p I_i S_iw T_iw U_iw G_is I_j S_jw T_jw U_jw G_js R_w OC_o O_o B_h P_h N_h L_h E_h V_h G_h D_h O_h Z_h R_h I_h 9 = wdW cI cJ cZ (q 9) S_jw T_jw U_jw := rfl
theorem gW_10 (cI cJ cZ : ClassId) (q : Nat → Nat → Nat) (S_n : gWS) (T_n : gWT) (U_n : gWU) (S_r : gWS) (T_r : gWT) (U_r : gWU) (G_s : gGG) (P_p : gPP) (I_i : gII) (S_iw : gWS) (T_iw : gWT) (U_iw : gWU) (G_is : gGG) (I_j : gII) (S_jw : gWS) (T_jw : gWT) (U_jw : gWU) (G_js : gGG) (R_w : gRR) (OC_o : gOOC) (O_o : gOO) (B_h : gMB) (P_h : gMP) (N_h : gMN) (L_h : gML) (E_h : gME) (V_h : gMV) (G_h : gMG) (D_h : gMD) (O_h : gMO) (Z_h : gMZ) (R_h : gMR) (I_h : gMI) : gW cI cJ cZ q S_n T_n U_n S_r T_r U_r G_s P_p I_i S_iw T_iw U_iw G_is I_j S_jw T_jw U_jw G_js R_w OC_o O_o B_h P_h N_h L_h E_h V_h G_h D_h O_h Z_h R_h I_h 10 = wdG cI cJ cZ (q 10) G_js := rfl
theorem gW_11 (cI cJ cZ : ClassId) (q : Nat → Nat → Nat) (S_n : gWS) (T_n : gWT) (U_n : gWU) (S_r : gWS) (T_r : gWT) (U_r : gWU) (G_s : gGG) (P_p : gPP) (I_i : gII) (S_iw : gWS) (T_iw : gWT) (U_iw : gWU) (G_is : gGG) (I_j : gII) (S_jw : gWS) (T_jw : gWT) (U_jw : gWU) (G_js : gGG) (R_w : gRR) (OC_o : gOOC) (O_o : gOO) (B_h : gMB) (P_h : gMP) (N_h : gMN) (L_h : gML) (E_h : gME) (V_h : gMV) (G_h : gMG) (D_h : gMD) (O_h : gMO) (Z_h : gMZ) (R_h : gMR) (I_h : gMI) : gW cI cJ cZ q S_n T_n U_n S_r T_r U_r G_s P_p I_i S_iw T_iw U_iw G_is I_j S_jw T_jw U_jw G_js R_w OC_o O_o B_h P_h N_h L_h E_h V_h G_h D_h O_h Z_h R_h I_h 11 = wdR cI cJ cZ (q 11) R_w := rfl
theorem gW_12 (cI cJ cZ : ClassId) (q : Nat → Nat → Nat) (S_n : gWS) (T_n : gWT) (U_n : gWU) (S_r : gWS) (T_r : gWT) (U_r : gWU) (G_s : gGG) (P_p : gPP) (I_i : gII) (S_iw : gWS) (T_iw : gWT) (U_iw : gWU) (G_is : gGG) (I_j : gII) (S_jw : gWS) (T_jw : gWT) (U_jw : gWU) (G_js : gGG) (R_w : gRR) (OC_o : gOOC) (O_o : gOO) (B_h : gMB) (P_h : gMP) (N_h : gMN) (L_h : gML) (E_h : gME) (V_h : gMV) (G_h : gMG) (D_h : gMD) (O_h : gMO) (Z_h : gMZ) (R_h : gMR) (I_h : gMI) : gW cI cJ cZ q S_n T_n U_n S_r T_r U_r G_s P_p I_i S_iw T_iw U_iw G_is I_j S_jw T_jw U_jw G_js R_w OC_o O_o B_h P_h N_h L_h E_h V_h G_h D_h O_h Z_h R_h I_h 12 = wdO cI cJ cZ (q 12) OC_o O_o := rfl
theorem gW_13 (cI cJ cZ : ClassId) (q : Nat → Nat → Nat) (S_n : gWS) (T_n : gWT) (U_n : gWU) (S_r : gWS) (T_r : gWT) (U_r : gWU) (G_s : gGG) (P_p : gPP) (I_i : gII) (S_iw : gWS) (T_iw : gWT) (U_iw : gWU) (G_is : gGG) (I_j : gII) (S_jw : gWS) (T_jw : gWT) (U_jw : gWU) (G_js : gGG) (R_w : gRR) (OC_o : gOOC) (O_o : gOO) (B_h : gMB) (P_h : gMP) (N_h : gMN) (L_h : gML) (E_h : gME) (V_h : gMV) (G_h : gMG) (D_h : gMD) (O_h : gMO) (Z_h : gMZ) (R_h : gMR) (I_h : gMI) : gW cI cJ cZ q S_n T_n U_n S_r T_r U_r G_s P_p I_i S_iw T_iw U_iw G_is I_j S_jw T_jw U_jw G_js R_w OC_o O_o B_h P_h N_h L_h E_h V_h G_h D_h O_h Z_h R_h I_h 13 = wdM cI cJ cZ (q 13) B_h P_h N_h L_h E_h V_h G_h D_h O_h Z_h R_h I_h := rfl
/-- image k is kept on both sides alike -/
def IR (k : Int) (I : gMI) (i : gII) (S : gWS) (T : gWT) (G : gGG) : Prop := I.2 k = i ∧ (i = 0 ∨ i = 1) ∧ (i ≠ 0 → ∃ (B' : gMB) (N' : gMN) (H' : gMG), Inv B' N' ∧ BZ B' ∧ SR B' S ∧ TR B' N' T ∧ GR B'.1 G H' ∧ ImgR I.1 (80 * k) B' N' H')
def MR (S_n : gWS) (T_n : gWT) (G_s : gGG) (P_p : gPP) (I_i : gII) (S_iw : gWS) (T_iw : gWT) (G_is : gGG) (I_j : gII) (S_jw : gWS) (T_jw : gWT) (G_js : gGG) (B_h : gMB) (P_h : gMP) (N_h : gMN) (L_h : gML) (G_h : gMG) (D_h : gMD) (I_h : gMI) : Prop := Inv B_h P_h ∧ BZ B_h ∧ SR B_h S_n ∧ TR B_h P_h T_n ∧ GR B_h.1 G_s G_h ∧ PadR P_p D_h ∧ Scr N_h L_h ∧ IR 0 I_h I_i S_iw T_iw G_is ∧ IR 1 I_h I_j S_jw T_jw G_js
def LRel (cI cJ cZ : ClassId) (q : Nat → Nat → Nat) (ws : va_W) : Prop := ∃ (S_n : gWS) (T_n : gWT) (U_n : gWU) (S_r : gWS) (T_r : gWT) (U_r : gWU) (G_s : gGG) (P_p : gPP) (I_i : gII) (S_iw : gWS) (T_iw : gWT) (U_iw : gWU) (G_is : gGG) (I_j : gII) (S_jw : gWS) (T_jw : gWT) (U_jw : gWU) (G_js : gGG) (R_w : gRR) (OC_o : gOOC) (O_o : gOO) (B_h : gMB) (P_h : gMP) (N_h : gMN) (L_h : gML) (E_h : gME) (V_h : gMV) (G_h : gMG) (D_h : gMD) (O_h : gMO) (Z_h : gMZ) (R_h : gMR) (I_h : gMI), ws.Perm (gall (gW cI cJ cZ q S_n T_n U_n S_r T_r U_r G_s P_p I_i S_iw T_iw U_iw G_is I_j S_jw T_jw U_jw G_js R_w OC_o O_o B_h P_h N_h L_h E_h V_h G_h D_h O_h Z_h R_h I_h)) ∧ MR S_n T_n G_s P_p I_i S_iw T_iw G_is I_j S_jw T_jw G_js B_h P_h N_h L_h G_h D_h I_h
theorem rI_32 (x : Int32) : rI x.toInt := ⟨Int32.le_toInt x, by have := Int32.toInt_lt x; omega⟩
