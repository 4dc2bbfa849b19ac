/-! new, newarray, Object.<init> -/
theorem kn_nd_lt {l : List Nat} (h : l.Nodup) : va_nd l = true := by
  induction l with
  | nil => rfl
  | cons a l ih =>
    rw [List.nodup_cons] at h
    unfold va_nd
    rw [Bool.and_eq_true, decide_eq_true_eq]
    exact ⟨h.1, ih h.2⟩
theorem kn_range (n : Nat) : va_nd (List.range n) = true := kn_nd_lt List.nodup_range
theorem kn_fm {α : Type} (ws ws' : List α) : (List.range ws.length).filterMap (fun i => (ws ++ ws')[i]?) = ws := by
  have h : ∀ (n : Nat), n ≤ ws.length → (List.range n).filterMap (fun i => (ws ++ ws')[i]?) = ws.take n := by
    intro n
    induction n with
    | zero => intro _; rfl
    | succ n ih =>
      intro hn
      rw [List.range_succ, List.filterMap_append, ih (by omega), List.filterMap_cons, List.getElem?_append_left (by omega), List.getElem?_eq_getElem (by omega)]
      exact List.take_append_getElem (by omega)
  rw [h _ (Nat.le_refl _), List.take_length]
section KN
variable {cc : ByteArray} {own : String} {Ts : List Cond} {R : Room} {nL : Nat} {D : va_G} {tys : List (ClassId × FieldType)} {A : Nat → Prop} {l : Launch} {ini : Bool} {RP : Option Value → va_W → Prop} {mc ms : Nat} {K : KT} {cs sl pc : Nat} {lv : List (Nat × Value)} {st : List Value} {ws : va_W}
theorem k_obj {a ix : Nat} (C : KC cc own Ts R nL D tys A l ini RP mc ms K) (hd : decode cc pc = .ok (.invokespecial ix, 3)) (h1 : Cond.methodLink own ix Lib.objectInit ∈ Ts) (h2 : Cond.instanceMethod Lib.objectInit ∈ Ts) (h3 : Cond.code Lib.objectInit ⟨#[0xb1]⟩ 1 none ∈ Ts) (hf : 1 ≤ R.frames) (hlo : (st.map fun v => v.category).sum + 12 ≤ R.locals) (n : Nat) (hn : pc + 3 = n) (k : K cs sl n lv st ws) : K cs sl pc lv (.ref a :: st) ws := by
  obtain ⟨p, e, s, m, args, below, meth, c, Q, ⟨hx, hb, hml, hown, hts⟩, hK, hA, hin, hNk, rfl, hret⟩ := C
  intro H locs ls hP hD hS hl
  subst hn
  refine W.objInit (rest := st) hx hb hown (hts _ h1) (hts _ h2) (hts _ h3) rfl (by rw [hml]; exact hl.1) rfl hd hf ?_ ?_
  · show 2 * 0 + _ + 12 ≤ _
    omega
  · exact W.eq (g2 := F0 m (pc + 3) ls st) rfl (k H locs ls hP hD hS hl)
theorem k_new {ci ix N : Nat} {Cn : String} {T : u_T} {ty0 : Nat → FieldType} {fs : List Value} (C : KC cc own Ts R nL D tys A l ini RP mc ms K) (hd : decode cc pc = .ok (.new ix, 3)) (hc : vwCl[ci]? = some (Cn, T, N)) (hin : ∀ w ∈ u_ws Cn T N, w ∈ Ts) (hty : ∀ k, k < N → parseFieldDescriptor (T k).2.2.1 = some (ty0 k)) (h1 : Cond.classLink own ix Cn ∈ Ts) (h2 : Cond.instantiable Cn N ∈ Ts) (h3 : Cond.initialized Cn ∈ Ts) (hfs : ∀ j, j < N → defaultValue (ty0 j) = vp_V fs j) (hcs : cs + 1 ≤ R.cells ∧ sl + N ≤ R.slots) (n : Nat) (hn : pc + 3 = n) (k : ∀ q, K (cs + 1) (sl + N) n lv (.ref q :: st) (ws ++ [(q, .inr (ci, fs))])) : K cs sl pc lv st ws := by
  obtain ⟨p, e, s, m, args, below, meth, c, Q, ⟨hx, hb, hml, hown, hts⟩, hK, hA, hini, hNk, rfl, hret⟩ := C
  intro H locs ls hP hD hS hl
  subst hn
  exact va_new hx hb hts hin ty0 hty hown (hts _ h1) (hts _ h2) (hts _ h3) hK hP hD hS hA hc hfs hcs.1 hcs.2 hd (fun q H1 hP1 hD1 hS1 => k q H1 locs ls hP1 hD1 hS1 hl)
theorem k_newA {N : Nat} {x : Int} {atype : ArrayType} {ty : FieldType} {cA : ClassId} (a0 : vp_A) (C : KC cc own Ts R nL D tys A l ini RP mc ms K) (hd : decode cc pc = .ok (.newarray atype, 2)) (hty : newarray.typeOf atype = ty) (hw : Cond.arrayClass ty ∈ Ts) (t0 : Nat) (ht : tys[t0]? = some (cA, ty)) (hra : ∀ (U : State) (c : ClassId), va_RA U c ty → U.vm.findClass ("[" ++ ty.toString) = some c) (ha : ∀ c : ClassId, vp_cell c a0 = arrV c N (fun _ => defaultValue ty)) (hx0 : x = (N : Int)) (hN : N ≤ 65535) (hby : N * componentBytes ty ≤ 536870912) (hcs : cs + 1 ≤ R.cells ∧ sl + N ≤ R.slots) (cs2 sl2 : Nat) (hc2 : cs + 1 = cs2 ∧ sl + N = sl2) (ws' : Nat → va_W) (hws : ∀ q, ws ++ [(q, .inl (cA, a0))] = ws' q) (n : Nat) (hn : pc + 2 = n) (k : ∀ q, K cs2 sl2 n lv (.ref q :: st) (ws' q)) : K cs sl pc lv (.int (iI x) :: st) ws := by
  obtain ⟨p, e, s, m, args, below, meth, c, Q, ⟨hx, hb, hml, hown, hts⟩, hK, hA, hini, hNk, rfl, hret⟩ := C
  intro H locs ls hP hD hS hl
  subst hn hx0
  obtain ⟨rfl, rfl⟩ := hc2
  subst hty
  refine va_newa hx hb (hts _ hw) rfl hK hP hD hS hA ha (by rw [iI_0, iI_lt ⟨by omega, by omega⟩ rI_0]; omega) (by rw [iI_cl (by omega) (by omega)]; rfl) hby hcs.1 hcs.2 hd (fun q cA' H1 hK1 hP1 hD1 hS1 => ?_)
  have e1 := hra s cA' (hK1.2 tys.length (cA', _) (by rw [List.getElem?_append_right (Nat.le_refl _), Nat.sub_self]; rfl)).2
  have e2 := hra s cA (hK.2 t0 _ ht).2
  have e3 : cA' = cA := Option.some.inj (e1.symm.trans e2)
  subst e3
  have := k q H1 locs ls
  rw [← hws] at this
  exact this hP1 hD1 hS1 hl
theorem k_mkN {y : MethodName} {host : String} {wsy ws' : List Cond} {rm : Room} {RPc : Nat → Option Value → va_W → Prop} {ix ix2 maxL mc1 ms1 ci N : Nat} {bytes : ByteArray} {T : u_T} {ty0 : Nat → FieldType} {fs : List Value} (C : KC cc own Ts R nL D tys A l ini RP mc ms K) (hd1 : decode cc pc = .ok (.new ix, 3)) (hd2 : decode cc (pc + 3) = .ok (.dup, 1)) (hd3 : decode cc (pc + 4) = .ok (.invokespecial ix2, 3)) (hc : vwCl[ci]? = some (y.cls, T, N)) (hin : ∀ w ∈ u_ws y.cls T N, w ∈ Ts) (hty : ∀ k, k < N → parseFieldDescriptor (T k).2.2.1 = some (ty0 k)) (h1 : Cond.classLink own ix y.cls ∈ Ts) (h2 : Cond.instantiable y.cls N ∈ Ts) (h3 : Cond.initialized y.cls ∈ Ts) (hfs : ∀ j, j < N → defaultValue (ty0 j) = vp_V fs j) (hM : ∀ q, KM l D tys mc1 ms1 y wsy rm [.ref q] [(q, .inr (ci, fs))] (RPc q)) (hv : ∀ q v w, RPc q v w → v = none) (hG : GoodIn Ts wsy) (hlk : Cond.methodLinkNest own ix2 y host ∈ nW) (hw : wsy = Cond.code y bytes maxL none :: ws') (hsig : y.cls ≠ "java/lang/invoke/MethodHandle" ∧ y.cls ≠ "java/lang/invoke/VarHandle" ∧ (parseMethodDescriptor y.desc).map (fun d => d.parameters.length) = some 0) (hi2 : Cond.instanceMethod y ∈ Ts) (hy1 : y.name = "<init>") (hroom : (((Value.ref 0 :: st).map fun v => v.category).sum ≤ 8)) (hrm : (rm.cells = mc1 ∧ rm.slots = ms1) ∧ (rm.frames + 1 ≤ R.frames ∧ 8 + (maxL + 11) + rm.locals ≤ R.locals)) (hcs : cs + 1 + mc1 ≤ R.cells ∧ sl + N + ms1 ≤ R.slots) (cs2 sl2 : Nat) (hc2 : cs + 1 + mc1 = cs2 ∧ sl + N + ms1 = sl2) (n : Nat) (hn : pc + 7 = n) (kk : ∀ q w1, RPc q none w1 → K cs2 sl2 n lv (.ref q :: st) (ws ++ w1)) : K cs sl pc lv st ws := by
  refine k_new C hd1 hc hin hty h1 h2 h3 hfs ⟨by omega, by omega⟩ (pc + 3) rfl (fun q => ?_)
  refine k_dup C hd2 rfl (pc + 4) rfl ?_
  refine k_callNI (ret := none) (As := []) (rest := .ref q :: st) C hd3 (hM q) hG hlk h3 hw hsig hi2 hy1 rfl hroom hrm hcs [ws.length] (List.range ws.length) ?_ rfl ?_ (kn_range _) ?_ cs2 sl2 hc2 n (by omega) (fun v w1 hq => ?_)
  · show [(ws ++ [_])[ws.length]?] = _
    rw [List.getElem?_append_right (Nat.le_refl _), Nat.sub_self]; rfl
  · rw [List.all_eq_true]
    intro i hi
    rw [List.mem_range] at hi
    rw [List.length_append, decide_eq_true_eq]; omega
  · intro i hi
    rw [List.mem_range] at hi
    rw [List.mem_singleton]; omega
  · have hv1 := hv q v w1 hq
    subst hv1
    rw [kn_fm]
    exact kk q w1 hq
theorem k_mkI {y : MethodName} {wsy ws' : List Cond} {rm : Room} {RPc : Nat → Option Value → va_W → Prop} {ix ix2 maxL mc1 ms1 ci N : Nat} {bytes : ByteArray} {T : u_T} {ty0 : Nat → FieldType} {fs : List Value} (C : KC cc own Ts R nL D tys A l ini RP mc ms K) (hd1 : decode cc pc = .ok (.new ix, 3)) (hd2 : decode cc (pc + 3) = .ok (.dup, 1)) (hd3 : decode cc (pc + 4) = .ok (.invokespecial ix2, 3)) (hc : vwCl[ci]? = some (y.cls, T, N)) (hin : ∀ w ∈ u_ws y.cls T N, w ∈ Ts) (hty : ∀ k, k < N → parseFieldDescriptor (T k).2.2.1 = some (ty0 k)) (h1 : Cond.classLink own ix y.cls ∈ Ts) (h2 : Cond.instantiable y.cls N ∈ Ts) (h3 : Cond.initialized y.cls ∈ Ts) (hfs : ∀ j, j < N → defaultValue (ty0 j) = vp_V fs j) (hM : ∀ q, KM l D tys mc1 ms1 y wsy rm [.ref q] [(q, .inr (ci, fs))] (RPc q)) (hv : ∀ q v w, RPc q v w → v = none) (hG : GoodIn Ts wsy) (hlk : Cond.methodLink own ix2 y ∈ Ts) (hw : wsy = Cond.code y bytes maxL none :: ws') (hsig : y.cls ≠ "java/lang/invoke/MethodHandle" ∧ y.cls ≠ "java/lang/invoke/VarHandle" ∧ (parseMethodDescriptor y.desc).map (fun d => d.parameters.length) = some 0) (hi2 : Cond.instanceMethod y ∈ Ts) (hy1 : y.name = "<init>") (hroom : (((Value.ref 0 :: st).map fun v => v.category).sum ≤ 8)) (hrm : (rm.cells = mc1 ∧ rm.slots = ms1) ∧ (rm.frames + 1 ≤ R.frames ∧ 8 + (maxL + 11) + rm.locals ≤ R.locals)) (hcs : cs + 1 + mc1 ≤ R.cells ∧ sl + N + ms1 ≤ R.slots) (cs2 sl2 : Nat) (hc2 : cs + 1 + mc1 = cs2 ∧ sl + N + ms1 = sl2) (n : Nat) (hn : pc + 7 = n) (kk : ∀ q w1, RPc q none w1 → K cs2 sl2 n lv (.ref q :: st) (ws ++ w1)) : K cs sl pc lv st ws := by
  refine k_new C hd1 hc hin hty h1 h2 h3 hfs ⟨by omega, by omega⟩ (pc + 3) rfl (fun q => ?_)
  refine k_dup C hd2 rfl (pc + 4) rfl ?_
  refine k_callI (ret := none) (As := []) (rest := .ref q :: st) C hd3 (hM q) hG hw hsig h3 hlk hi2 hy1 rfl hroom hrm hcs [ws.length] (List.range ws.length) ?_ rfl ?_ (kn_range _) ?_ cs2 sl2 hc2 n (by omega) (fun v w1 hq => ?_)
  · show [(ws ++ [_])[ws.length]?] = _
    rw [List.getElem?_append_right (Nat.le_refl _), Nat.sub_self]; rfl
  · rw [List.all_eq_true]
    intro i hi
    rw [List.mem_range] at hi
    rw [List.length_append, decide_eq_true_eq]; omega
  · intro i hi
    rw [List.mem_range] at hi
    rw [List.mem_singleton]; omega
  · have hv1 := hv q v w1 hq
    subst hv1
    rw [kn_fm]
    exact kk q w1 hq
end KN
theorem arrI0 (N : Nat) (c : ClassId) : vp_cell c (N, .inl (mI (fun _ => 0))) = arrV c N (fun _ => defaultValue .int) := rfl
theorem arrZ0 (N : Nat) (c : ClassId) : vp_cell c (N, .inl (mI (fun _ => 0))) = arrV c N (fun _ => defaultValue .boolean) := rfl
theorem arrJ0 (N : Nat) (c : ClassId) : vp_cell c (N, .inr (.inl (mL (fun _ => 0)))) = arrV c N (fun _ => defaultValue .long) := rfl
theorem bl_X0 : ∀ j, j < 3 → defaultValue (tyX0 j) = vp_V ([.int (iI 0), .null, .null]) j := fun j hj => match j, hj with
  | 0, _ => rfl
  | 1, _ => rfl
  | 2, _ => rfl
  | _ + 3, h => absurd h (by omega)
theorem bl_X1 : ∀ j, j < 4 → defaultValue (tyX1 j) = vp_V ([.int (iI 0), .null, .null, .null]) j := fun j hj => match j, hj with
  | 0, _ => rfl
  | 1, _ => rfl
  | 2, _ => rfl
  | 3, _ => rfl
  | _ + 4, h => absurd h (by omega)
theorem bl_X2 : ∀ j, j < 2 → defaultValue (tyX2 j) = vp_V ([.int (iI 0), .null]) j := fun j hj => match j, hj with
  | 0, _ => rfl
  | 1, _ => rfl
  | _ + 2, h => absurd h (by omega)
theorem bl_X3 : ∀ j, j < 4 → defaultValue (tyX3 j) = vp_V ([.int (iI 0), .int (iI 0), .int (iI 0), .null]) j := fun j hj => match j, hj with
  | 0, _ => rfl
  | 1, _ => rfl
  | 2, _ => rfl
  | 3, _ => rfl
  | _ + 4, h => absurd h (by omega)
theorem bl_X4 : ∀ j, j < 3 → defaultValue (tyX4 j) = vp_V ([.int (iI 0), .null, .null]) j := fun j hj => match j, hj with
  | 0, _ => rfl
  | 1, _ => rfl
  | 2, _ => rfl
  | _ + 3, h => absurd h (by omega)
theorem bl_X5 : ∀ j, j < 11 → defaultValue (tyX5 j) = vp_V ([.int (iI 0), .int (iI 0), .int (iI 0), .null, .null, .null, .null, .null, .null, .null, .null]) j := fun j hj => match j, hj with
  | 0, _ => rfl
  | 1, _ => rfl
  | 2, _ => rfl
  | 3, _ => rfl
  | 4, _ => rfl
  | 5, _ => rfl
  | 6, _ => rfl
  | 7, _ => rfl
  | 8, _ => rfl
  | 9, _ => rfl
  | 10, _ => rfl
  | _ + 11, h => absurd h (by omega)
theorem bl_X6 : ∀ j, j < 8 → defaultValue (tyX6 j) = vp_V ([.null, .null, .null, .null, .null, .null, .null, .null]) j := fun j hj => match j, hj with
  | 0, _ => rfl
  | 1, _ => rfl
  | 2, _ => rfl
  | 3, _ => rfl
  | 4, _ => rfl
  | 5, _ => rfl
  | 6, _ => rfl
  | 7, _ => rfl
  | _ + 8, h => absurd h (by omega)
theorem bl_X7 : ∀ j, j < 26 → defaultValue (tyX7 j) = vp_V ([.int (iI 0), .int (iI 0), .null, .null, .null, .null, .null, .int (iI 0), .null, .int (iI 0), .null, .null, .null, .null, .int (iI 0), .long (lL 0), .long (lL 0), .null, .null, .null, .int (iI 0), .int (iI 0), .int (iI 0), .null, .null, .null]) j := fun j hj => match j, hj with
  | 0, _ => rfl
  | 1, _ => rfl
  | 2, _ => rfl
  | 3, _ => rfl
  | 4, _ => rfl
  | 5, _ => rfl
  | 6, _ => rfl
  | 7, _ => rfl
  | 8, _ => rfl
  | 9, _ => rfl
  | 10, _ => rfl
  | 11, _ => rfl
  | 12, _ => rfl
  | 13, _ => rfl
  | 14, _ => rfl
  | 15, _ => rfl
  | 16, _ => rfl
  | 17, _ => rfl
  | 18, _ => rfl
  | 19, _ => rfl
  | 20, _ => rfl
  | 21, _ => rfl
  | 22, _ => rfl
  | 23, _ => rfl
  | 24, _ => rfl
  | 25, _ => rfl
  | _ + 26, h => absurd h (by omega)
/-! X5_init -/
theorem hin_X5_init_5 : ∀ w ∈ wsX50, w ∈ wsX5_init := fun _ h => List.mem_cons_of_mem _ (List.mem_append_right _ h)
abbrev rm_X5_init : Room := { frames := 1, cells := 8, slots := 159, locals := 14 }
theorem sg_X5_init : yX5_init.cls ≠ "java/lang/invoke/MethodHandle" ∧ yX5_init.cls ≠ "java/lang/invoke/VarHandle" ∧ (parseMethodDescriptor yX5_init.desc).map (fun d => d.parameters.length) = some 0 := by decide +kernel
set_option maxHeartbeats 4000000 in
set_option maxRecDepth 20000 in
theorem c_X5_init {l : Launch} {D : va_G} {cI cJ cZ : ClassId} (h0 : Nat) : KM l D (kT cI cJ cZ) 8 159 yX5_init wsX5_init rm_X5_init [.ref h0] [(h0, .inr (5, [.int (iI 0), .int (iI 0), .int (iI 0), .null, .null, .null, .null, .null, .null, .null, .null]))] (fun v w1 => v = none ∧ ∃ q : Nat → Nat, q 0 = h0 ∧ w1 = wdW cI cJ cZ q (6, 0, (fun _ => 0), (fun _ => 0), (fun _ => 0)) (0, (fun _ => 0), (fun _ => 0), (fun _ => 0), (fun _ => 0)) (fun _ => 0)) := by
  refine KM_intro (lv := [(0, .ref h0)]) true rfl (by decide) (Nat.le_of_ble_eq_true rfl) rfl (fun _ => rfl) (fun v ws hq => Or.inl ⟨rfl, hq.1⟩) (fun A K C => ?_)
  refine k_aload_n C dX5_init_0 0 rfl rfl 1 rfl ?_
  refine k_obj C dX5_init_1 (List.mem_of_getElem? (i := 1) rfl) (List.mem_of_getElem? (i := 2) rfl) (List.mem_of_getElem? (i := 3) rfl) (Nat.le_of_ble_eq_true rfl) (Nat.le_of_ble_eq_true rfl) 4 rfl ?_
  refine k_aload_n C dX5_init_4 0 rfl rfl 5 rfl ?_
  refine k_bipush C dX5_init_5 (by decide) 7 rfl ?_
  refine k_put C dX5_init_7 0 rfl (ci := 5) rfl hin_X5_init_5 tyX5_ok nmX5 0 (by decide) (List.mem_of_getElem? (i := 4) rfl) rfl rfl rfl (Nat.le_of_ble_eq_true rfl) ([(h0, .inr (5, [.int (iI 6), .int (iI 0), .int (iI 0), .null, .null, .null, .null, .null, .null, .null, .null]))]) rfl 10 rfl ?_
  refine k_aload_n C dX5_init_10 0 rfl rfl 11 rfl ?_
  refine k_bipush C dX5_init_11 (by decide) 13 rfl ?_
  refine k_newA (N := 10) (10, .inl (mI (fun _ => 0))) C dX5_init_13 rfl (List.mem_of_getElem? (i := 5) rfl) 0 rfl (fun _ _ h => h) (arrI0 _) rfl (by decide) (Nat.le_of_ble_eq_true rfl) ⟨Nat.le_of_ble_eq_true rfl, Nat.le_of_ble_eq_true rfl⟩ 1 10 ⟨rfl, rfl⟩ (fun q13 => [(h0, .inr (5, [.int (iI 6), .int (iI 0), .int (iI 0), .null, .null, .null, .null, .null, .null, .null, .null])), (q13, .inl (cI, 10, .inl (mI (fun _ => 0))))]) (fun _ => rfl) 15 rfl (fun q13 => ?_)
  refine k_putF C dX5_init_15 0 rfl (ci := 5) rfl hin_X5_init_5 tyX5_ok nmX5 3 (by decide) (List.mem_of_getElem? (i := 6) rfl) rfl rfl rfl rfl rfl (Nat.le_of_ble_eq_true rfl) ([(h0, .inr (5, [.int (iI 6), .int (iI 0), .int (iI 0), .ref q13, .null, .null, .null, .null, .null, .null, .null])), (q13, .inl (cI, 10, .inl (mI (fun _ => 0))))]) rfl 18 rfl ?_
  refine k_aload_n C dX5_init_18 0 rfl rfl 19 rfl ?_
  refine k_bipush C dX5_init_19 (by decide) 21 rfl ?_
  refine k_newA (N := 10) (10, .inl (mI (fun _ => 0))) C dX5_init_21 rfl (List.mem_of_getElem? (i := 5) rfl) 0 rfl (fun _ _ h => h) (arrI0 _) rfl (by decide) (Nat.le_of_ble_eq_true rfl) ⟨Nat.le_of_ble_eq_true rfl, Nat.le_of_ble_eq_true rfl⟩ 2 20 ⟨rfl, rfl⟩ (fun q21 => [(h0, .inr (5, [.int (iI 6), .int (iI 0), .int (iI 0), .ref q13, .null, .null, .null, .null, .null, .null, .null])), (q13, .inl (cI, 10, .inl (mI (fun _ => 0)))), (q21, .inl (cI, 10, .inl (mI (fun _ => 0))))]) (fun _ => rfl) 23 rfl (fun q21 => ?_)
  refine k_putF C dX5_init_23 0 rfl (ci := 5) rfl hin_X5_init_5 tyX5_ok nmX5 4 (by decide) (List.mem_of_getElem? (i := 7) rfl) rfl rfl rfl rfl rfl (Nat.le_of_ble_eq_true rfl) ([(h0, .inr (5, [.int (iI 6), .int (iI 0), .int (iI 0), .ref q13, .ref q21, .null, .null, .null, .null, .null, .null])), (q13, .inl (cI, 10, .inl (mI (fun _ => 0)))), (q21, .inl (cI, 10, .inl (mI (fun _ => 0))))]) rfl 26 rfl ?_
  refine k_aload_n C dX5_init_26 0 rfl rfl 27 rfl ?_
  refine k_bipush C dX5_init_27 (by decide) 29 rfl ?_
  refine k_newA (N := 10) (10, .inl (mI (fun _ => 0))) C dX5_init_29 rfl (List.mem_of_getElem? (i := 5) rfl) 0 rfl (fun _ _ h => h) (arrI0 _) rfl (by decide) (Nat.le_of_ble_eq_true rfl) ⟨Nat.le_of_ble_eq_true rfl, Nat.le_of_ble_eq_true rfl⟩ 3 30 ⟨rfl, rfl⟩ (fun q29 => [(h0, .inr (5, [.int (iI 6), .int (iI 0), .int (iI 0), .ref q13, .ref q21, .null, .null, .null, .null, .null, .null])), (q13, .inl (cI, 10, .inl (mI (fun _ => 0)))), (q21, .inl (cI, 10, .inl (mI (fun _ => 0)))), (q29, .inl (cI, 10, .inl (mI (fun _ => 0))))]) (fun _ => rfl) 31 rfl (fun q29 => ?_)
  refine k_putF C dX5_init_31 0 rfl (ci := 5) rfl hin_X5_init_5 tyX5_ok nmX5 5 (by decide) (List.mem_of_getElem? (i := 8) rfl) rfl rfl rfl rfl rfl (Nat.le_of_ble_eq_true rfl) ([(h0, .inr (5, [.int (iI 6), .int (iI 0), .int (iI 0), .ref q13, .ref q21, .ref q29, .null, .null, .null, .null, .null])), (q13, .inl (cI, 10, .inl (mI (fun _ => 0)))), (q21, .inl (cI, 10, .inl (mI (fun _ => 0)))), (q29, .inl (cI, 10, .inl (mI (fun _ => 0))))]) rfl 34 rfl ?_
  refine k_aload_n C dX5_init_34 0 rfl rfl 35 rfl ?_
  refine k_bipush C dX5_init_35 (by decide) 37 rfl ?_
  refine k_newA (N := 10) (10, .inl (mI (fun _ => 0))) C dX5_init_37 rfl (List.mem_of_getElem? (i := 5) rfl) 0 rfl (fun _ _ h => h) (arrI0 _) rfl (by decide) (Nat.le_of_ble_eq_true rfl) ⟨Nat.le_of_ble_eq_true rfl, Nat.le_of_ble_eq_true rfl⟩ 4 40 ⟨rfl, rfl⟩ (fun q37 => [(h0, .inr (5, [.int (iI 6), .int (iI 0), .int (iI 0), .ref q13, .ref q21, .ref q29, .null, .null, .null, .null, .null])), (q13, .inl (cI, 10, .inl (mI (fun _ => 0)))), (q21, .inl (cI, 10, .inl (mI (fun _ => 0)))), (q29, .inl (cI, 10, .inl (mI (fun _ => 0)))), (q37, .inl (cI, 10, .inl (mI (fun _ => 0))))]) (fun _ => rfl) 39 rfl (fun q37 => ?_)
  refine k_putF C dX5_init_39 0 rfl (ci := 5) rfl hin_X5_init_5 tyX5_ok nmX5 6 (by decide) (List.mem_of_getElem? (i := 9) rfl) rfl rfl rfl rfl rfl (Nat.le_of_ble_eq_true rfl) ([(h0, .inr (5, [.int (iI 6), .int (iI 0), .int (iI 0), .ref q13, .ref q21, .ref q29, .ref q37, .null, .null, .null, .null])), (q13, .inl (cI, 10, .inl (mI (fun _ => 0)))), (q21, .inl (cI, 10, .inl (mI (fun _ => 0)))), (q29, .inl (cI, 10, .inl (mI (fun _ => 0)))), (q37, .inl (cI, 10, .inl (mI (fun _ => 0))))]) rfl 42 rfl ?_
  refine k_aload_n C dX5_init_42 0 rfl rfl 43 rfl ?_
  refine k_bipush C dX5_init_43 (by decide) 45 rfl ?_
  refine k_newA (N := 10) (10, .inl (mI (fun _ => 0))) C dX5_init_45 rfl (List.mem_of_getElem? (i := 5) rfl) 0 rfl (fun _ _ h => h) (arrI0 _) rfl (by decide) (Nat.le_of_ble_eq_true rfl) ⟨Nat.le_of_ble_eq_true rfl, Nat.le_of_ble_eq_true rfl⟩ 5 50 ⟨rfl, rfl⟩ (fun q45 => [(h0, .inr (5, [.int (iI 6), .int (iI 0), .int (iI 0), .ref q13, .ref q21, .ref q29, .ref q37, .null, .null, .null, .null])), (q13, .inl (cI, 10, .inl (mI (fun _ => 0)))), (q21, .inl (cI, 10, .inl (mI (fun _ => 0)))), (q29, .inl (cI, 10, .inl (mI (fun _ => 0)))), (q37, .inl (cI, 10, .inl (mI (fun _ => 0)))), (q45, .inl (cI, 10, .inl (mI (fun _ => 0))))]) (fun _ => rfl) 47 rfl (fun q45 => ?_)
  refine k_putF C dX5_init_47 0 rfl (ci := 5) rfl hin_X5_init_5 tyX5_ok nmX5 7 (by decide) (List.mem_of_getElem? (i := 10) rfl) rfl rfl rfl rfl rfl (Nat.le_of_ble_eq_true rfl) ([(h0, .inr (5, [.int (iI 6), .int (iI 0), .int (iI 0), .ref q13, .ref q21, .ref q29, .ref q37, .ref q45, .null, .null, .null])), (q13, .inl (cI, 10, .inl (mI (fun _ => 0)))), (q21, .inl (cI, 10, .inl (mI (fun _ => 0)))), (q29, .inl (cI, 10, .inl (mI (fun _ => 0)))), (q37, .inl (cI, 10, .inl (mI (fun _ => 0)))), (q45, .inl (cI, 10, .inl (mI (fun _ => 0))))]) rfl 50 rfl ?_
  refine k_aload_n C dX5_init_50 0 rfl rfl 51 rfl ?_
  refine k_bipush C dX5_init_51 (by decide) 53 rfl ?_
  refine k_newA (N := 90) (90, .inl (mI (fun _ => 0))) C dX5_init_53 rfl (List.mem_of_getElem? (i := 5) rfl) 0 rfl (fun _ _ h => h) (arrI0 _) rfl (by decide) (Nat.le_of_ble_eq_true rfl) ⟨Nat.le_of_ble_eq_true rfl, Nat.le_of_ble_eq_true rfl⟩ 6 140 ⟨rfl, rfl⟩ (fun q53 => [(h0, .inr (5, [.int (iI 6), .int (iI 0), .int (iI 0), .ref q13, .ref q21, .ref q29, .ref q37, .ref q45, .null, .null, .null])), (q13, .inl (cI, 10, .inl (mI (fun _ => 0)))), (q21, .inl (cI, 10, .inl (mI (fun _ => 0)))), (q29, .inl (cI, 10, .inl (mI (fun _ => 0)))), (q37, .inl (cI, 10, .inl (mI (fun _ => 0)))), (q45, .inl (cI, 10, .inl (mI (fun _ => 0)))), (q53, .inl (cI, 90, .inl (mI (fun _ => 0))))]) (fun _ => rfl) 55 rfl (fun q53 => ?_)
  refine k_putF C dX5_init_55 0 rfl (ci := 5) rfl hin_X5_init_5 tyX5_ok nmX5 8 (by decide) (List.mem_of_getElem? (i := 11) rfl) rfl rfl rfl rfl rfl (Nat.le_of_ble_eq_true rfl) ([(h0, .inr (5, [.int (iI 6), .int (iI 0), .int (iI 0), .ref q13, .ref q21, .ref q29, .ref q37, .ref q45, .ref q53, .null, .null])), (q13, .inl (cI, 10, .inl (mI (fun _ => 0)))), (q21, .inl (cI, 10, .inl (mI (fun _ => 0)))), (q29, .inl (cI, 10, .inl (mI (fun _ => 0)))), (q37, .inl (cI, 10, .inl (mI (fun _ => 0)))), (q45, .inl (cI, 10, .inl (mI (fun _ => 0)))), (q53, .inl (cI, 90, .inl (mI (fun _ => 0))))]) rfl 58 rfl ?_
  refine k_aload_n C dX5_init_58 0 rfl rfl 59 rfl ?_
  refine k_bipush C dX5_init_59 (by decide) 61 rfl ?_
  refine k_newA (N := 9) (9, .inl (mI (fun _ => 0))) C dX5_init_61 rfl (List.mem_of_getElem? (i := 5) rfl) 0 rfl (fun _ _ h => h) (arrI0 _) rfl (by decide) (Nat.le_of_ble_eq_true rfl) ⟨Nat.le_of_ble_eq_true rfl, Nat.le_of_ble_eq_true rfl⟩ 7 149 ⟨rfl, rfl⟩ (fun q61 => [(h0, .inr (5, [.int (iI 6), .int (iI 0), .int (iI 0), .ref q13, .ref q21, .ref q29, .ref q37, .ref q45, .ref q53, .null, .null])), (q13, .inl (cI, 10, .inl (mI (fun _ => 0)))), (q21, .inl (cI, 10, .inl (mI (fun _ => 0)))), (q29, .inl (cI, 10, .inl (mI (fun _ => 0)))), (q37, .inl (cI, 10, .inl (mI (fun _ => 0)))), (q45, .inl (cI, 10, .inl (mI (fun _ => 0)))), (q53, .inl (cI, 90, .inl (mI (fun _ => 0)))), (q61, .inl (cI, 9, .inl (mI (fun _ => 0))))]) (fun _ => rfl) 63 rfl (fun q61 => ?_)
  refine k_putF C dX5_init_63 0 rfl (ci := 5) rfl hin_X5_init_5 tyX5_ok nmX5 9 (by decide) (List.mem_of_getElem? (i := 12) rfl) rfl rfl rfl rfl rfl (Nat.le_of_ble_eq_true rfl) ([(h0, .inr (5, [.int (iI 6), .int (iI 0), .int (iI 0), .ref q13, .ref q21, .ref q29, .ref q37, .ref q45, .ref q53, .ref q61, .null])), (q13, .inl (cI, 10, .inl (mI (fun _ => 0)))), (q21, .inl (cI, 10, .inl (mI (fun _ => 0)))), (q29, .inl (cI, 10, .inl (mI (fun _ => 0)))), (q37, .inl (cI, 10, .inl (mI (fun _ => 0)))), (q45, .inl (cI, 10, .inl (mI (fun _ => 0)))), (q53, .inl (cI, 90, .inl (mI (fun _ => 0)))), (q61, .inl (cI, 9, .inl (mI (fun _ => 0))))]) rfl 66 rfl ?_
  refine k_aload_n C dX5_init_66 0 rfl rfl 67 rfl ?_
  refine k_bipush C dX5_init_67 (by decide) 69 rfl ?_
  refine k_newA (N := 10) (10, .inr (.inl (mL (fun _ => 0)))) C dX5_init_69 rfl (List.mem_of_getElem? (i := 13) rfl) 1 rfl (fun _ _ h => h) (arrJ0 _) rfl (by decide) (Nat.le_of_ble_eq_true rfl) ⟨Nat.le_of_ble_eq_true rfl, Nat.le_of_ble_eq_true rfl⟩ 8 159 ⟨rfl, rfl⟩ (fun q69 => [(h0, .inr (5, [.int (iI 6), .int (iI 0), .int (iI 0), .ref q13, .ref q21, .ref q29, .ref q37, .ref q45, .ref q53, .ref q61, .null])), (q13, .inl (cI, 10, .inl (mI (fun _ => 0)))), (q21, .inl (cI, 10, .inl (mI (fun _ => 0)))), (q29, .inl (cI, 10, .inl (mI (fun _ => 0)))), (q37, .inl (cI, 10, .inl (mI (fun _ => 0)))), (q45, .inl (cI, 10, .inl (mI (fun _ => 0)))), (q53, .inl (cI, 90, .inl (mI (fun _ => 0)))), (q61, .inl (cI, 9, .inl (mI (fun _ => 0)))), (q69, .inl (cJ, 10, .inr (.inl (mL (fun _ => 0)))))]) (fun _ => rfl) 71 rfl (fun q69 => ?_)
  refine k_putF C dX5_init_71 0 rfl (ci := 5) rfl hin_X5_init_5 tyX5_ok nmX5 10 (by decide) (List.mem_of_getElem? (i := 14) rfl) rfl rfl rfl rfl rfl (Nat.le_of_ble_eq_true rfl) ([(h0, .inr (5, [.int (iI 6), .int (iI 0), .int (iI 0), .ref q13, .ref q21, .ref q29, .ref q37, .ref q45, .ref q53, .ref q61, .ref q69])), (q13, .inl (cI, 10, .inl (mI (fun _ => 0)))), (q21, .inl (cI, 10, .inl (mI (fun _ => 0)))), (q29, .inl (cI, 10, .inl (mI (fun _ => 0)))), (q37, .inl (cI, 10, .inl (mI (fun _ => 0)))), (q45, .inl (cI, 10, .inl (mI (fun _ => 0)))), (q53, .inl (cI, 90, .inl (mI (fun _ => 0)))), (q61, .inl (cI, 9, .inl (mI (fun _ => 0)))), (q69, .inl (cJ, 10, .inr (.inl (mL (fun _ => 0)))))]) rfl 74 rfl ?_
  exact k_vret C dX5_init_74 ⟨rfl, (fun i => [h0, q13, q21, q29, q37, q45, q53, q61, q69].getD i 0), rfl, rfl⟩
/-! X4_init -/
theorem hin_X4_init_4 : ∀ w ∈ wsX40, w ∈ wsX4_init := fun _ h => List.mem_cons_of_mem _ (List.mem_append_right _ h)
abbrev rm_X4_init : Room := { frames := 1, cells := 2, slots := 16, locals := 14 }
theorem sg_X4_init : yX4_init.cls ≠ "java/lang/invoke/MethodHandle" ∧ yX4_init.cls ≠ "java/lang/invoke/VarHandle" ∧ (parseMethodDescriptor yX4_init.desc).map (fun d => d.parameters.length) = some 0 := by decide +kernel
set_option maxHeartbeats 4000000 in
set_option maxRecDepth 20000 in
theorem c_X4_init {l : Launch} {D : va_G} {cI cJ cZ : ClassId} (h0 : Nat) : KM l D (kT cI cJ cZ) 2 16 yX4_init wsX4_init rm_X4_init [.ref h0] [(h0, .inr (4, [.int (iI 0), .null, .null]))] (fun v w1 => v = none ∧ ∃ q : Nat → Nat, q 0 = h0 ∧ w1 = wdG cI cJ cZ q (0, (fun _ => 0), (fun _ => 0))) := by
  refine KM_intro (lv := [(0, .ref h0)]) true rfl (by decide) (Nat.le_of_ble_eq_true rfl) rfl (fun _ => rfl) (fun v ws hq => Or.inl ⟨rfl, hq.1⟩) (fun A K C => ?_)
  refine k_aload_n C dX4_init_0 0 rfl rfl 1 rfl ?_
  refine k_obj C dX4_init_1 (List.mem_of_getElem? (i := 1) rfl) (List.mem_of_getElem? (i := 2) rfl) (List.mem_of_getElem? (i := 3) rfl) (Nat.le_of_ble_eq_true rfl) (Nat.le_of_ble_eq_true rfl) 4 rfl ?_
  refine k_aload_n C dX4_init_4 0 rfl rfl 5 rfl ?_
  refine k_bipush C dX4_init_5 (by decide) 7 rfl ?_
  refine k_newA (N := 8) (8, .inl (mI (fun _ => 0))) C dX4_init_7 rfl (List.mem_of_getElem? (i := 4) rfl) 0 rfl (fun _ _ h => h) (arrI0 _) rfl (by decide) (Nat.le_of_ble_eq_true rfl) ⟨Nat.le_of_ble_eq_true rfl, Nat.le_of_ble_eq_true rfl⟩ 1 8 ⟨rfl, rfl⟩ (fun q7 => [(h0, .inr (4, [.int (iI 0), .null, .null])), (q7, .inl (cI, 8, .inl (mI (fun _ => 0))))]) (fun _ => rfl) 9 rfl (fun q7 => ?_)
  refine k_putF C dX4_init_9 0 rfl (ci := 4) rfl hin_X4_init_4 tyX4_ok nmX4 1 (by decide) (List.mem_of_getElem? (i := 5) rfl) rfl rfl rfl rfl rfl (Nat.le_of_ble_eq_true rfl) ([(h0, .inr (4, [.int (iI 0), .ref q7, .null])), (q7, .inl (cI, 8, .inl (mI (fun _ => 0))))]) rfl 12 rfl ?_
  refine k_aload_n C dX4_init_12 0 rfl rfl 13 rfl ?_
  refine k_bipush C dX4_init_13 (by decide) 15 rfl ?_
  refine k_newA (N := 8) (8, .inl (mI (fun _ => 0))) C dX4_init_15 rfl (List.mem_of_getElem? (i := 4) rfl) 0 rfl (fun _ _ h => h) (arrI0 _) rfl (by decide) (Nat.le_of_ble_eq_true rfl) ⟨Nat.le_of_ble_eq_true rfl, Nat.le_of_ble_eq_true rfl⟩ 2 16 ⟨rfl, rfl⟩ (fun q15 => [(h0, .inr (4, [.int (iI 0), .ref q7, .null])), (q7, .inl (cI, 8, .inl (mI (fun _ => 0)))), (q15, .inl (cI, 8, .inl (mI (fun _ => 0))))]) (fun _ => rfl) 17 rfl (fun q15 => ?_)
  refine k_putF C dX4_init_17 0 rfl (ci := 4) rfl hin_X4_init_4 tyX4_ok nmX4 2 (by decide) (List.mem_of_getElem? (i := 6) rfl) rfl rfl rfl rfl rfl (Nat.le_of_ble_eq_true rfl) ([(h0, .inr (4, [.int (iI 0), .ref q7, .ref q15])), (q7, .inl (cI, 8, .inl (mI (fun _ => 0)))), (q15, .inl (cI, 8, .inl (mI (fun _ => 0))))]) rfl 20 rfl ?_
  exact k_vret C dX4_init_20 ⟨rfl, (fun i => [h0, q7, q15].getD i 0), rfl, rfl⟩
/-! X3_init -/
theorem hin_X3_init_3 : ∀ w ∈ wsX30, w ∈ wsX3_init := fun _ h => List.mem_cons_of_mem _ (List.mem_append_right _ h)
abbrev rm_X3_init : Room := { frames := 1, cells := 1, slots := 99, locals := 14 }
theorem sg_X3_init : yX3_init.cls ≠ "java/lang/invoke/MethodHandle" ∧ yX3_init.cls ≠ "java/lang/invoke/VarHandle" ∧ (parseMethodDescriptor yX3_init.desc).map (fun d => d.parameters.length) = some 0 := by decide +kernel
set_option maxHeartbeats 4000000 in
set_option maxRecDepth 20000 in
theorem c_X3_init {l : Launch} {D : va_G} {cI cJ cZ : ClassId} (h0 : Nat) : KM l D (kT cI cJ cZ) 1 99 yX3_init wsX3_init rm_X3_init [.ref h0] [(h0, .inr (3, [.int (iI 0), .int (iI 0), .int (iI 0), .null]))] (fun v w1 => v = none ∧ ∃ q : Nat → Nat, q 0 = h0 ∧ w1 = wdR cI cJ cZ q (0, 0, 0, (fun _ => 0))) := by
  refine KM_intro (lv := [(0, .ref h0)]) true rfl (by decide) (Nat.le_of_ble_eq_true rfl) rfl (fun _ => rfl) (fun v ws hq => Or.inl ⟨rfl, hq.1⟩) (fun A K C => ?_)
  refine k_aload_n C dX3_init_0 0 rfl rfl 1 rfl ?_
  refine k_obj C dX3_init_1 (List.mem_of_getElem? (i := 1) rfl) (List.mem_of_getElem? (i := 2) rfl) (List.mem_of_getElem? (i := 3) rfl) (Nat.le_of_ble_eq_true rfl) (Nat.le_of_ble_eq_true rfl) 4 rfl ?_
  refine k_aload_n C dX3_init_4 0 rfl rfl 5 rfl ?_
  refine k_bipush C dX3_init_5 (by decide) 7 rfl ?_
  refine k_newA (N := 99) (99, .inl (mI (fun _ => 0))) C dX3_init_7 rfl (List.mem_of_getElem? (i := 4) rfl) 0 rfl (fun _ _ h => h) (arrI0 _) rfl (by decide) (Nat.le_of_ble_eq_true rfl) ⟨Nat.le_of_ble_eq_true rfl, Nat.le_of_ble_eq_true rfl⟩ 1 99 ⟨rfl, rfl⟩ (fun q7 => [(h0, .inr (3, [.int (iI 0), .int (iI 0), .int (iI 0), .null])), (q7, .inl (cI, 99, .inl (mI (fun _ => 0))))]) (fun _ => rfl) 9 rfl (fun q7 => ?_)
  refine k_putF C dX3_init_9 0 rfl (ci := 3) rfl hin_X3_init_3 tyX3_ok nmX3 3 (by decide) (List.mem_of_getElem? (i := 5) rfl) rfl rfl rfl rfl rfl (Nat.le_of_ble_eq_true rfl) ([(h0, .inr (3, [.int (iI 0), .int (iI 0), .int (iI 0), .ref q7])), (q7, .inl (cI, 99, .inl (mI (fun _ => 0))))]) rfl 12 rfl ?_
  exact k_vret C dX3_init_12 ⟨rfl, (fun i => [h0, q7].getD i 0), rfl, rfl⟩
/-! X2_init -/
theorem hin_X2_init_2 : ∀ w ∈ wsX20, w ∈ wsX2_init := fun _ h => List.mem_cons_of_mem _ (List.mem_append_right _ h)
abbrev rm_X2_init : Room := { frames := 1, cells := 1, slots := 60, locals := 14 }
theorem sg_X2_init : yX2_init.cls ≠ "java/lang/invoke/MethodHandle" ∧ yX2_init.cls ≠ "java/lang/invoke/VarHandle" ∧ (parseMethodDescriptor yX2_init.desc).map (fun d => d.parameters.length) = some 0 := by decide +kernel
set_option maxHeartbeats 4000000 in
set_option maxRecDepth 20000 in
theorem c_X2_init {l : Launch} {D : va_G} {cI cJ cZ : ClassId} (h0 : Nat) : KM l D (kT cI cJ cZ) 1 60 yX2_init wsX2_init rm_X2_init [.ref h0] [(h0, .inr (2, [.int (iI 0), .null]))] (fun v w1 => v = none ∧ ∃ q : Nat → Nat, q 0 = h0 ∧ w1 = wdP cI cJ cZ q (0, (fun _ => 0))) := by
  refine KM_intro (lv := [(0, .ref h0)]) true rfl (by decide) (Nat.le_of_ble_eq_true rfl) rfl (fun _ => rfl) (fun v ws hq => Or.inl ⟨rfl, hq.1⟩) (fun A K C => ?_)
  refine k_aload_n C dX2_init_0 0 rfl rfl 1 rfl ?_
  refine k_obj C dX2_init_1 (List.mem_of_getElem? (i := 1) rfl) (List.mem_of_getElem? (i := 2) rfl) (List.mem_of_getElem? (i := 3) rfl) (Nat.le_of_ble_eq_true rfl) (Nat.le_of_ble_eq_true rfl) 4 rfl ?_
  refine k_aload_n C dX2_init_4 0 rfl rfl 5 rfl ?_
  refine k_bipush C dX2_init_5 (by decide) 7 rfl ?_
  refine k_newA (N := 60) (60, .inl (mI (fun _ => 0))) C dX2_init_7 rfl (List.mem_of_getElem? (i := 4) rfl) 0 rfl (fun _ _ h => h) (arrI0 _) rfl (by decide) (Nat.le_of_ble_eq_true rfl) ⟨Nat.le_of_ble_eq_true rfl, Nat.le_of_ble_eq_true rfl⟩ 1 60 ⟨rfl, rfl⟩ (fun q7 => [(h0, .inr (2, [.int (iI 0), .null])), (q7, .inl (cI, 60, .inl (mI (fun _ => 0))))]) (fun _ => rfl) 9 rfl (fun q7 => ?_)
  refine k_putF C dX2_init_9 0 rfl (ci := 2) rfl hin_X2_init_2 tyX2_ok nmX2 1 (by decide) (List.mem_of_getElem? (i := 5) rfl) rfl rfl rfl rfl rfl (Nat.le_of_ble_eq_true rfl) ([(h0, .inr (2, [.int (iI 0), .ref q7])), (q7, .inl (cI, 60, .inl (mI (fun _ => 0))))]) rfl 12 rfl ?_
  exact k_vret C dX2_init_12 ⟨rfl, (fun i => [h0, q7].getD i 0), rfl, rfl⟩
/-! X1_init -/
theorem hin_X1_init_1 : ∀ w ∈ wsX10, w ∈ wsX1_init := fun _ h => List.mem_cons_of_mem _ (List.mem_append_right _ h)
abbrev rm_X1_init : Room := { frames := 1, cells := 3, slots := 22, locals := 14 }
theorem sg_X1_init : yX1_init.cls ≠ "java/lang/invoke/MethodHandle" ∧ yX1_init.cls ≠ "java/lang/invoke/VarHandle" ∧ (parseMethodDescriptor yX1_init.desc).map (fun d => d.parameters.length) = some 0 := by decide +kernel
set_option maxHeartbeats 4000000 in
set_option maxRecDepth 20000 in
theorem c_X1_init {l : Launch} {D : va_G} {cI cJ cZ : ClassId} (h0 : Nat) : KM l D (kT cI cJ cZ) 3 22 yX1_init wsX1_init rm_X1_init [.ref h0] [(h0, .inr (1, [.int (iI 0), .null, .null, .null]))] (fun v w1 => v = none ∧ ∃ q : Nat → Nat, q 0 = h0 ∧ w1 = wdO cI cJ cZ q (fun _ => 0) (0, (fun _ => 0), (fun _ => 0))) := by
  refine KM_intro (lv := [(0, .ref h0)]) true rfl (by decide) (Nat.le_of_ble_eq_true rfl) rfl (fun _ => rfl) (fun v ws hq => Or.inl ⟨rfl, hq.1⟩) (fun A K C => ?_)
  refine k_aload_n C dX1_init_0 0 rfl rfl 1 rfl ?_
  refine k_obj C dX1_init_1 (List.mem_of_getElem? (i := 1) rfl) (List.mem_of_getElem? (i := 2) rfl) (List.mem_of_getElem? (i := 3) rfl) (Nat.le_of_ble_eq_true rfl) (Nat.le_of_ble_eq_true rfl) 4 rfl ?_
  refine k_aload_n C dX1_init_4 0 rfl rfl 5 rfl ?_
  refine k_bipush C dX1_init_5 (by decide) 7 rfl ?_
  refine k_newA (N := 10) (10, .inl (mI (fun _ => 0))) C dX1_init_7 rfl (List.mem_of_getElem? (i := 4) rfl) 0 rfl (fun _ _ h => h) (arrI0 _) rfl (by decide) (Nat.le_of_ble_eq_true rfl) ⟨Nat.le_of_ble_eq_true rfl, Nat.le_of_ble_eq_true rfl⟩ 1 10 ⟨rfl, rfl⟩ (fun q7 => [(h0, .inr (1, [.int (iI 0), .null, .null, .null])), (q7, .inl (cI, 10, .inl (mI (fun _ => 0))))]) (fun _ => rfl) 9 rfl (fun q7 => ?_)
  refine k_putF C dX1_init_9 0 rfl (ci := 1) rfl hin_X1_init_1 tyX1_ok nmX1 1 (by decide) (List.mem_of_getElem? (i := 5) rfl) rfl rfl rfl rfl rfl (Nat.le_of_ble_eq_true rfl) ([(h0, .inr (1, [.int (iI 0), .ref q7, .null, .null])), (q7, .inl (cI, 10, .inl (mI (fun _ => 0))))]) rfl 12 rfl ?_
  refine k_aload_n C dX1_init_12 0 rfl rfl 13 rfl ?_
  refine k_bipush C dX1_init_13 (by decide) 15 rfl ?_
  refine k_newA (N := 6) (6, .inl (mI (fun _ => 0))) C dX1_init_15 rfl (List.mem_of_getElem? (i := 4) rfl) 0 rfl (fun _ _ h => h) (arrI0 _) rfl (by decide) (Nat.le_of_ble_eq_true rfl) ⟨Nat.le_of_ble_eq_true rfl, Nat.le_of_ble_eq_true rfl⟩ 2 16 ⟨rfl, rfl⟩ (fun q15 => [(h0, .inr (1, [.int (iI 0), .ref q7, .null, .null])), (q7, .inl (cI, 10, .inl (mI (fun _ => 0)))), (q15, .inl (cI, 6, .inl (mI (fun _ => 0))))]) (fun _ => rfl) 17 rfl (fun q15 => ?_)
  refine k_putF C dX1_init_17 0 rfl (ci := 1) rfl hin_X1_init_1 tyX1_ok nmX1 2 (by decide) (List.mem_of_getElem? (i := 6) rfl) rfl rfl rfl rfl rfl (Nat.le_of_ble_eq_true rfl) ([(h0, .inr (1, [.int (iI 0), .ref q7, .ref q15, .null])), (q7, .inl (cI, 10, .inl (mI (fun _ => 0)))), (q15, .inl (cI, 6, .inl (mI (fun _ => 0))))]) rfl 20 rfl ?_
  refine k_aload_n C dX1_init_20 0 rfl rfl 21 rfl ?_
  refine k_bipush C dX1_init_21 (by decide) 23 rfl ?_
  refine k_newA (N := 6) (6, .inl (mI (fun _ => 0))) C dX1_init_23 rfl (List.mem_of_getElem? (i := 4) rfl) 0 rfl (fun _ _ h => h) (arrI0 _) rfl (by decide) (Nat.le_of_ble_eq_true rfl) ⟨Nat.le_of_ble_eq_true rfl, Nat.le_of_ble_eq_true rfl⟩ 3 22 ⟨rfl, rfl⟩ (fun q23 => [(h0, .inr (1, [.int (iI 0), .ref q7, .ref q15, .null])), (q7, .inl (cI, 10, .inl (mI (fun _ => 0)))), (q15, .inl (cI, 6, .inl (mI (fun _ => 0)))), (q23, .inl (cI, 6, .inl (mI (fun _ => 0))))]) (fun _ => rfl) 25 rfl (fun q23 => ?_)
  refine k_putF C dX1_init_25 0 rfl (ci := 1) rfl hin_X1_init_1 tyX1_ok nmX1 3 (by decide) (List.mem_of_getElem? (i := 7) rfl) rfl rfl rfl rfl rfl (Nat.le_of_ble_eq_true rfl) ([(h0, .inr (1, [.int (iI 0), .ref q7, .ref q15, .ref q23])), (q7, .inl (cI, 10, .inl (mI (fun _ => 0)))), (q15, .inl (cI, 6, .inl (mI (fun _ => 0)))), (q23, .inl (cI, 6, .inl (mI (fun _ => 0))))]) rfl 28 rfl ?_
  exact k_vret C dX1_init_28 ⟨rfl, (fun i => [h0, q7, q15, q23].getD i 0), rfl, rfl⟩
/-! X0_init -/
theorem hin_X0_init_0 : ∀ w ∈ wsX00, w ∈ wsX0_init := fun _ h => List.mem_cons_of_mem _ (List.mem_append_left _ (List.mem_append_right _ h))
theorem hin_X0_init_4 : ∀ w ∈ wsX40, w ∈ wsX0_init := fun _ h => List.mem_cons_of_mem _ (List.mem_append_right _ h)
theorem hin_X0_init_5 : ∀ w ∈ wsX50, w ∈ wsX0_init := fun _ h => List.mem_cons_of_mem _ (List.mem_append_left _ (List.mem_append_left _ (List.mem_append_right _ h)))
abbrev rm_X0_init : Room := { frames := 2, cells := 12, slots := 189, locals := 34 }
theorem sg_X0_init : yX0_init.cls ≠ "java/lang/invoke/MethodHandle" ∧ yX0_init.cls ≠ "java/lang/invoke/VarHandle" ∧ (parseMethodDescriptor yX0_init.desc).map (fun d => d.parameters.length) = some 0 := by decide +kernel
set_option maxHeartbeats 4000000 in
set_option maxRecDepth 20000 in
theorem c_X0_init {l : Launch} {D : va_G} {cI cJ cZ : ClassId} (h0 : Nat) : KM l D (kT cI cJ cZ) 12 189 yX0_init wsX0_init rm_X0_init [.ref h0] [(h0, .inr (0, [.int (iI 0), .null, .null]))] (fun v w1 => v = none ∧ ∃ q q1 q2 : Nat → Nat, q 0 = h0 ∧ w1 = wdI cI cJ cZ q q1 q2 0 ++ (wdW cI cJ cZ q1 (6, 0, (fun _ => 0), (fun _ => 0), (fun _ => 0)) (0, (fun _ => 0), (fun _ => 0), (fun _ => 0), (fun _ => 0)) (fun _ => 0) ++ wdG cI cJ cZ q2 (0, (fun _ => 0), (fun _ => 0)))) := by
  refine KM_intro (lv := [(0, .ref h0)]) true rfl (by decide) (Nat.le_of_ble_eq_true rfl) rfl (fun _ => rfl) (fun v ws hq => Or.inl ⟨rfl, hq.1⟩) (fun A K C => ?_)
  refine k_aload_n C dX0_init_0 0 rfl rfl 1 rfl ?_
  refine k_obj C dX0_init_1 (List.mem_of_getElem? (i := 1) rfl) (List.mem_of_getElem? (i := 2) rfl) (List.mem_of_getElem? (i := 3) rfl) (Nat.le_of_ble_eq_true rfl) (Nat.le_of_ble_eq_true rfl) 4 rfl ?_
  refine k_aload_n C dX0_init_4 0 rfl rfl 5 rfl ?_
  refine k_mkN C dX0_init_5 dX0_init_8 dX0_init_9 (ci := 5) rfl hin_X0_init_5 tyX5_ok (List.mem_of_getElem? (i := 4) rfl) (List.mem_of_getElem? (i := 5) rfl) (List.mem_of_getElem? (i := 6) rfl) bl_X5 (fun q => c_X5_init q) (fun _ _ _ h => h.1) ggX0_init_X5_init (List.mem_of_getElem? (i := 17) rfl) rfl sg_X5_init (List.mem_of_getElem? (i := 12) rfl) rfl (Nat.le_of_ble_eq_true rfl) ⟨⟨rfl, rfl⟩, Nat.le_of_ble_eq_true rfl, Nat.le_of_ble_eq_true rfl⟩ ⟨Nat.le_of_ble_eq_true rfl, Nat.le_of_ble_eq_true rfl⟩ 9 170 ⟨rfl, rfl⟩ 12 rfl (fun q5 w5 hq5 => ?_)
  refine k_st (K := K) _ ((h0, .inr (0, [.int (iI 0), .null, .null])) :: w5) rfl rfl ?_
  refine k_putF C dX0_init_12 0 rfl (ci := 0) rfl hin_X0_init_0 tyX0_ok nmX0 1 (by decide) (List.mem_of_getElem? (i := 7) rfl) rfl rfl rfl rfl rfl (Nat.le_of_ble_eq_true rfl) ((h0, .inr (0, [.int (iI 0), .ref q5, .null])) :: w5) rfl 15 rfl ?_
  refine k_aload_n C dX0_init_15 0 rfl rfl 16 rfl ?_
  refine k_mkN C dX0_init_16 dX0_init_19 dX0_init_20 (ci := 4) rfl hin_X0_init_4 tyX4_ok (List.mem_of_getElem? (i := 8) rfl) (List.mem_of_getElem? (i := 9) rfl) (List.mem_of_getElem? (i := 10) rfl) bl_X4 (fun q => c_X4_init q) (fun _ _ _ h => h.1) ggX0_init_X4_init (List.mem_of_getElem? (i := 18) rfl) rfl sg_X4_init (List.mem_of_getElem? (i := 26) rfl) rfl (Nat.le_of_ble_eq_true rfl) ⟨⟨rfl, rfl⟩, Nat.le_of_ble_eq_true rfl, Nat.le_of_ble_eq_true rfl⟩ ⟨Nat.le_of_ble_eq_true rfl, Nat.le_of_ble_eq_true rfl⟩ 12 189 ⟨rfl, rfl⟩ 23 rfl (fun q16 w16 hq16 => ?_)
  refine k_st (K := K) _ ((h0, .inr (0, [.int (iI 0), .ref q5, .null])) :: (w5 ++ w16)) rfl rfl ?_
  refine k_putF C dX0_init_23 0 rfl (ci := 0) rfl hin_X0_init_0 tyX0_ok nmX0 2 (by decide) (List.mem_of_getElem? (i := 11) rfl) rfl rfl rfl rfl rfl (Nat.le_of_ble_eq_true rfl) ((h0, .inr (0, [.int (iI 0), .ref q5, .ref q16])) :: (w5 ++ w16)) rfl 26 rfl ?_
  obtain ⟨_, z1, e1, rfl⟩ := hq5
  obtain ⟨_, z2, e2, rfl⟩ := hq16
  subst e1; subst e2
  exact k_vret C dX0_init_26 ⟨rfl, fun _ => h0, z1, z2, rfl, rfl⟩
/-! X6_init -/
theorem hin_X6_init_0 : ∀ w ∈ wsX00, w ∈ wsX6_init := fun _ h => List.mem_cons_of_mem _ (List.mem_append_left _ (List.mem_append_left _ (List.mem_append_right _ h)))
theorem hin_X6_init_1 : ∀ w ∈ wsX10, w ∈ wsX6_init := fun _ h => List.mem_cons_of_mem _ (List.mem_append_right _ h)
theorem hin_X6_init_2 : ∀ w ∈ wsX20, w ∈ wsX6_init := fun _ h => List.mem_cons_of_mem _ (List.mem_append_left _ (List.mem_append_left _ (List.mem_append_left _ (List.mem_append_right _ h))))
theorem hin_X6_init_3 : ∀ w ∈ wsX30, w ∈ wsX6_init := fun _ h => List.mem_cons_of_mem _ (List.mem_append_left _ (List.mem_append_right _ h))
theorem hin_X6_init_4 : ∀ w ∈ wsX40, w ∈ wsX6_init := fun _ h => List.mem_cons_of_mem _ (List.mem_append_left _ (List.mem_append_left _ (List.mem_append_left _ (List.mem_append_left _ (List.mem_append_right _ h)))))
theorem hin_X6_init_5 : ∀ w ∈ wsX50, w ∈ wsX6_init := fun _ h => List.mem_cons_of_mem _ (List.mem_append_left _ (List.mem_append_left _ (List.mem_append_left _ (List.mem_append_left _ (List.mem_append_left _ (List.mem_append_left _ (List.mem_append_right _ h)))))))
theorem hin_X6_init_6 : ∀ w ∈ wsX60, w ∈ wsX6_init := fun _ h => List.mem_cons_of_mem _ (List.mem_append_left _ (List.mem_append_left _ (List.mem_append_left _ (List.mem_append_left _ (List.mem_append_left _ (List.mem_append_right _ h))))))
abbrev rm_X6_init : Room := { frames := 3, cells := 55, slots := 934, locals := 54 }
theorem sg_X6_init : yX6_init.cls ≠ "java/lang/invoke/MethodHandle" ∧ yX6_init.cls ≠ "java/lang/invoke/VarHandle" ∧ (parseMethodDescriptor yX6_init.desc).map (fun d => d.parameters.length) = some 0 := by decide +kernel
set_option maxHeartbeats 4000000 in
set_option maxRecDepth 20000 in
theorem c_X6_init {l : Launch} {D : va_G} {cI cJ cZ : ClassId} (h0 : Nat) : KM l D (kT cI cJ cZ) 55 934 yX6_init wsX6_init rm_X6_init [.ref h0] [(h0, .inr (6, [.null, .null, .null, .null, .null, .null, .null, .null]))] (fun v w1 => v = none ∧ ∃ q qn qr qs qp qi qi1 qi2 qj qj1 qj2 qw qo : Nat → Nat, q 0 = h0 ∧ w1 = wdX cI cJ cZ q qn qr qs qp qi qj qw qo ++ (((((((wdW cI cJ cZ qn (6, 0, (fun _ => 0), (fun _ => 0), (fun _ => 0)) (0, (fun _ => 0), (fun _ => 0), (fun _ => 0), (fun _ => 0)) (fun _ => 0) ++ wdW cI cJ cZ qr (6, 0, (fun _ => 0), (fun _ => 0), (fun _ => 0)) (0, (fun _ => 0), (fun _ => 0), (fun _ => 0), (fun _ => 0)) (fun _ => 0)) ++ wdG cI cJ cZ qs (0, (fun _ => 0), (fun _ => 0))) ++ wdP cI cJ cZ qp (0, (fun _ => 0))) ++ (wdI cI cJ cZ qi qi1 qi2 0 ++ (wdW cI cJ cZ qi1 (6, 0, (fun _ => 0), (fun _ => 0), (fun _ => 0)) (0, (fun _ => 0), (fun _ => 0), (fun _ => 0), (fun _ => 0)) (fun _ => 0) ++ wdG cI cJ cZ qi2 (0, (fun _ => 0), (fun _ => 0))))) ++ (wdI cI cJ cZ qj qj1 qj2 0 ++ (wdW cI cJ cZ qj1 (6, 0, (fun _ => 0), (fun _ => 0), (fun _ => 0)) (0, (fun _ => 0), (fun _ => 0), (fun _ => 0), (fun _ => 0)) (fun _ => 0) ++ wdG cI cJ cZ qj2 (0, (fun _ => 0), (fun _ => 0))))) ++ wdR cI cJ cZ qw (0, 0, 0, (fun _ => 0))) ++ wdO cI cJ cZ qo (fun _ => 0) (0, (fun _ => 0), (fun _ => 0)))) := by
  refine KM_intro (lv := [(0, .ref h0)]) true rfl (by decide) (Nat.le_of_ble_eq_true rfl) rfl (fun _ => rfl) (fun v ws hq => Or.inl ⟨rfl, hq.1⟩) (fun A K C => ?_)
  refine k_aload_n C dX6_init_0 0 rfl rfl 1 rfl ?_
  refine k_obj C dX6_init_1 (List.mem_of_getElem? (i := 1) rfl) (List.mem_of_getElem? (i := 2) rfl) (List.mem_of_getElem? (i := 3) rfl) (Nat.le_of_ble_eq_true rfl) (Nat.le_of_ble_eq_true rfl) 4 rfl ?_
  refine k_aload_n C dX6_init_4 0 rfl rfl 5 rfl ?_
  refine k_mkN C dX6_init_5 dX6_init_8 dX6_init_9 (ci := 5) rfl hin_X6_init_5 tyX5_ok (List.mem_of_getElem? (i := 4) rfl) (List.mem_of_getElem? (i := 5) rfl) (List.mem_of_getElem? (i := 6) rfl) bl_X5 (fun q => c_X5_init q) (fun _ _ _ h => h.1) ggX6_init_X5_init (List.mem_of_getElem? (i := 0) rfl) rfl sg_X5_init (List.mem_of_getElem? (i := 30) rfl) rfl (Nat.le_of_ble_eq_true rfl) ⟨⟨rfl, rfl⟩, Nat.le_of_ble_eq_true rfl, Nat.le_of_ble_eq_true rfl⟩ ⟨Nat.le_of_ble_eq_true rfl, Nat.le_of_ble_eq_true rfl⟩ 9 170 ⟨rfl, rfl⟩ 12 rfl (fun q5 w5 hq5 => ?_)
  refine k_st (K := K) _ ((h0, .inr (6, [.null, .null, .null, .null, .null, .null, .null, .null])) :: w5) rfl rfl ?_
  refine k_putF C dX6_init_12 0 rfl (ci := 6) rfl hin_X6_init_6 tyX6_ok nmX6 0 (by decide) (List.mem_of_getElem? (i := 7) rfl) rfl rfl rfl rfl rfl (Nat.le_of_ble_eq_true rfl) ((h0, .inr (6, [.ref q5, .null, .null, .null, .null, .null, .null, .null])) :: w5) rfl 15 rfl ?_
  refine k_aload_n C dX6_init_15 0 rfl rfl 16 rfl ?_
  refine k_mkN C dX6_init_16 dX6_init_19 dX6_init_20 (ci := 5) rfl hin_X6_init_5 tyX5_ok (List.mem_of_getElem? (i := 4) rfl) (List.mem_of_getElem? (i := 5) rfl) (List.mem_of_getElem? (i := 6) rfl) bl_X5 (fun q => c_X5_init q) (fun _ _ _ h => h.1) ggX6_init_X5_init (List.mem_of_getElem? (i := 0) rfl) rfl sg_X5_init (List.mem_of_getElem? (i := 30) rfl) rfl (Nat.le_of_ble_eq_true rfl) ⟨⟨rfl, rfl⟩, Nat.le_of_ble_eq_true rfl, Nat.le_of_ble_eq_true rfl⟩ ⟨Nat.le_of_ble_eq_true rfl, Nat.le_of_ble_eq_true rfl⟩ 18 340 ⟨rfl, rfl⟩ 23 rfl (fun q16 w16 hq16 => ?_)
  refine k_st (K := K) _ ((h0, .inr (6, [.ref q5, .null, .null, .null, .null, .null, .null, .null])) :: (w5 ++ w16)) rfl rfl ?_
  refine k_putF C dX6_init_23 0 rfl (ci := 6) rfl hin_X6_init_6 tyX6_ok nmX6 1 (by decide) (List.mem_of_getElem? (i := 8) rfl) rfl rfl rfl rfl rfl (Nat.le_of_ble_eq_true rfl) ((h0, .inr (6, [.ref q5, .ref q16, .null, .null, .null, .null, .null, .null])) :: (w5 ++ w16)) rfl 26 rfl ?_
  refine k_aload_n C dX6_init_26 0 rfl rfl 27 rfl ?_
  refine k_mkN C dX6_init_27 dX6_init_30 dX6_init_31 (ci := 4) rfl hin_X6_init_4 tyX4_ok (List.mem_of_getElem? (i := 9) rfl) (List.mem_of_getElem? (i := 10) rfl) (List.mem_of_getElem? (i := 11) rfl) bl_X4 (fun q => c_X4_init q) (fun _ _ _ h => h.1) ggX6_init_X4_init (List.mem_of_getElem? (i := 12) rfl) rfl sg_X4_init (List.mem_of_getElem? (i := 44) rfl) rfl (Nat.le_of_ble_eq_true rfl) ⟨⟨rfl, rfl⟩, Nat.le_of_ble_eq_true rfl, Nat.le_of_ble_eq_true rfl⟩ ⟨Nat.le_of_ble_eq_true rfl, Nat.le_of_ble_eq_true rfl⟩ 21 359 ⟨rfl, rfl⟩ 34 rfl (fun q27 w27 hq27 => ?_)
  refine k_st (K := K) _ ((h0, .inr (6, [.ref q5, .ref q16, .null, .null, .null, .null, .null, .null])) :: ((w5 ++ w16) ++ w27)) rfl rfl ?_
  refine k_putF C dX6_init_34 0 rfl (ci := 6) rfl hin_X6_init_6 tyX6_ok nmX6 2 (by decide) (List.mem_of_getElem? (i := 12) rfl) rfl rfl rfl rfl rfl (Nat.le_of_ble_eq_true rfl) ((h0, .inr (6, [.ref q5, .ref q16, .ref q27, .null, .null, .null, .null, .null])) :: ((w5 ++ w16) ++ w27)) rfl 37 rfl ?_
  refine k_aload_n C dX6_init_37 0 rfl rfl 38 rfl ?_
  refine k_mkN C dX6_init_38 dX6_init_41 dX6_init_42 (ci := 2) rfl hin_X6_init_2 tyX2_ok (List.mem_of_getElem? (i := 13) rfl) (List.mem_of_getElem? (i := 14) rfl) (List.mem_of_getElem? (i := 15) rfl) bl_X2 (fun q => c_X2_init q) (fun _ _ _ h => h.1) ggX6_init_X2_init (List.mem_of_getElem? (i := 14) rfl) rfl sg_X2_init (List.mem_of_getElem? (i := 49) rfl) rfl (Nat.le_of_ble_eq_true rfl) ⟨⟨rfl, rfl⟩, Nat.le_of_ble_eq_true rfl, Nat.le_of_ble_eq_true rfl⟩ ⟨Nat.le_of_ble_eq_true rfl, Nat.le_of_ble_eq_true rfl⟩ 23 421 ⟨rfl, rfl⟩ 45 rfl (fun q38 w38 hq38 => ?_)
  refine k_st (K := K) _ ((h0, .inr (6, [.ref q5, .ref q16, .ref q27, .null, .null, .null, .null, .null])) :: (((w5 ++ w16) ++ w27) ++ w38)) rfl rfl ?_
  refine k_putF C dX6_init_45 0 rfl (ci := 6) rfl hin_X6_init_6 tyX6_ok nmX6 3 (by decide) (List.mem_of_getElem? (i := 16) rfl) rfl rfl rfl rfl rfl (Nat.le_of_ble_eq_true rfl) ((h0, .inr (6, [.ref q5, .ref q16, .ref q27, .ref q38, .null, .null, .null, .null])) :: (((w5 ++ w16) ++ w27) ++ w38)) rfl 48 rfl ?_
  refine k_aload_n C dX6_init_48 0 rfl rfl 49 rfl ?_
  refine k_mkN C dX6_init_49 dX6_init_52 dX6_init_53 (ci := 0) rfl hin_X6_init_0 tyX0_ok (List.mem_of_getElem? (i := 17) rfl) (List.mem_of_getElem? (i := 18) rfl) (List.mem_of_getElem? (i := 19) rfl) bl_X0 (fun q => c_X0_init q) (fun _ _ _ h => h.1) ggX6_init_X0_init (List.mem_of_getElem? (i := 16) rfl) rfl sg_X0_init (List.mem_of_getElem? (i := 53) rfl) rfl (Nat.le_of_ble_eq_true rfl) ⟨⟨rfl, rfl⟩, Nat.le_of_ble_eq_true rfl, Nat.le_of_ble_eq_true rfl⟩ ⟨Nat.le_of_ble_eq_true rfl, Nat.le_of_ble_eq_true rfl⟩ 36 613 ⟨rfl, rfl⟩ 56 rfl (fun q49 w49 hq49 => ?_)
  refine k_st (K := K) _ ((h0, .inr (6, [.ref q5, .ref q16, .ref q27, .ref q38, .null, .null, .null, .null])) :: ((((w5 ++ w16) ++ w27) ++ w38) ++ w49)) rfl rfl ?_
  refine k_putF C dX6_init_56 0 rfl (ci := 6) rfl hin_X6_init_6 tyX6_ok nmX6 4 (by decide) (List.mem_of_getElem? (i := 20) rfl) rfl rfl rfl rfl rfl (Nat.le_of_ble_eq_true rfl) ((h0, .inr (6, [.ref q5, .ref q16, .ref q27, .ref q38, .ref q49, .null, .null, .null])) :: ((((w5 ++ w16) ++ w27) ++ w38) ++ w49)) rfl 59 rfl ?_
  refine k_aload_n C dX6_init_59 0 rfl rfl 60 rfl ?_
  refine k_mkN C dX6_init_60 dX6_init_63 dX6_init_64 (ci := 0) rfl hin_X6_init_0 tyX0_ok (List.mem_of_getElem? (i := 17) rfl) (List.mem_of_getElem? (i := 18) rfl) (List.mem_of_getElem? (i := 19) rfl) bl_X0 (fun q => c_X0_init q) (fun _ _ _ h => h.1) ggX6_init_X0_init (List.mem_of_getElem? (i := 16) rfl) rfl sg_X0_init (List.mem_of_getElem? (i := 53) rfl) rfl (Nat.le_of_ble_eq_true rfl) ⟨⟨rfl, rfl⟩, Nat.le_of_ble_eq_true rfl, Nat.le_of_ble_eq_true rfl⟩ ⟨Nat.le_of_ble_eq_true rfl, Nat.le_of_ble_eq_true rfl⟩ 49 805 ⟨rfl, rfl⟩ 67 rfl (fun q60 w60 hq60 => ?_)
  refine k_st (K := K) _ ((h0, .inr (6, [.ref q5, .ref q16, .ref q27, .ref q38, .ref q49, .null, .null, .null])) :: (((((w5 ++ w16) ++ w27) ++ w38) ++ w49) ++ w60)) rfl rfl ?_
  refine k_putF C dX6_init_67 0 rfl (ci := 6) rfl hin_X6_init_6 tyX6_ok nmX6 5 (by decide) (List.mem_of_getElem? (i := 21) rfl) rfl rfl rfl rfl rfl (Nat.le_of_ble_eq_true rfl) ((h0, .inr (6, [.ref q5, .ref q16, .ref q27, .ref q38, .ref q49, .ref q60, .null, .null])) :: (((((w5 ++ w16) ++ w27) ++ w38) ++ w49) ++ w60)) rfl 70 rfl ?_
  refine k_aload_n C dX6_init_70 0 rfl rfl 71 rfl ?_
  refine k_mkN C dX6_init_71 dX6_init_74 dX6_init_75 (ci := 3) rfl hin_X6_init_3 tyX3_ok (List.mem_of_getElem? (i := 22) rfl) (List.mem_of_getElem? (i := 23) rfl) (List.mem_of_getElem? (i := 24) rfl) bl_X3 (fun q => c_X3_init q) (fun _ _ _ h => h.1) ggX6_init_X3_init (List.mem_of_getElem? (i := 22) rfl) rfl sg_X3_init (List.mem_of_getElem? (i := 60) rfl) rfl (Nat.le_of_ble_eq_true rfl) ⟨⟨rfl, rfl⟩, Nat.le_of_ble_eq_true rfl, Nat.le_of_ble_eq_true rfl⟩ ⟨Nat.le_of_ble_eq_true rfl, Nat.le_of_ble_eq_true rfl⟩ 51 908 ⟨rfl, rfl⟩ 78 rfl (fun q71 w71 hq71 => ?_)
  refine k_st (K := K) _ ((h0, .inr (6, [.ref q5, .ref q16, .ref q27, .ref q38, .ref q49, .ref q60, .null, .null])) :: ((((((w5 ++ w16) ++ w27) ++ w38) ++ w49) ++ w60) ++ w71)) rfl rfl ?_
  refine k_putF C dX6_init_78 0 rfl (ci := 6) rfl hin_X6_init_6 tyX6_ok nmX6 6 (by decide) (List.mem_of_getElem? (i := 25) rfl) rfl rfl rfl rfl rfl (Nat.le_of_ble_eq_true rfl) ((h0, .inr (6, [.ref q5, .ref q16, .ref q27, .ref q38, .ref q49, .ref q60, .ref q71, .null])) :: ((((((w5 ++ w16) ++ w27) ++ w38) ++ w49) ++ w60) ++ w71)) rfl 81 rfl ?_
  refine k_aload_n C dX6_init_81 0 rfl rfl 82 rfl ?_
  refine k_mkN C dX6_init_82 dX6_init_85 dX6_init_86 (ci := 1) rfl hin_X6_init_1 tyX1_ok (List.mem_of_getElem? (i := 26) rfl) (List.mem_of_getElem? (i := 27) rfl) (List.mem_of_getElem? (i := 28) rfl) bl_X1 (fun q => c_X1_init q) (fun _ _ _ h => h.1) ggX6_init_X1_init (List.mem_of_getElem? (i := 26) rfl) rfl sg_X1_init (List.mem_of_getElem? (i := 64) rfl) rfl (Nat.le_of_ble_eq_true rfl) ⟨⟨rfl, rfl⟩, Nat.le_of_ble_eq_true rfl, Nat.le_of_ble_eq_true rfl⟩ ⟨Nat.le_of_ble_eq_true rfl, Nat.le_of_ble_eq_true rfl⟩ 55 934 ⟨rfl, rfl⟩ 89 rfl (fun q82 w82 hq82 => ?_)
  refine k_st (K := K) _ ((h0, .inr (6, [.ref q5, .ref q16, .ref q27, .ref q38, .ref q49, .ref q60, .ref q71, .null])) :: (((((((w5 ++ w16) ++ w27) ++ w38) ++ w49) ++ w60) ++ w71) ++ w82)) rfl rfl ?_
  refine k_putF C dX6_init_89 0 rfl (ci := 6) rfl hin_X6_init_6 tyX6_ok nmX6 7 (by decide) (List.mem_of_getElem? (i := 29) rfl) rfl rfl rfl rfl rfl (Nat.le_of_ble_eq_true rfl) ((h0, .inr (6, [.ref q5, .ref q16, .ref q27, .ref q38, .ref q49, .ref q60, .ref q71, .ref q82])) :: (((((((w5 ++ w16) ++ w27) ++ w38) ++ w49) ++ w60) ++ w71) ++ w82)) rfl 92 rfl ?_
  obtain ⟨_, z0, e0, rfl⟩ := hq5
  subst e0
  obtain ⟨_, z1, e1, rfl⟩ := hq16
  subst e1
  obtain ⟨_, z2, e2, rfl⟩ := hq27
  subst e2
  obtain ⟨_, z3, e3, rfl⟩ := hq38
  subst e3
  obtain ⟨_, z4, z4a, z4b, e4, rfl⟩ := hq49
  subst e4
  obtain ⟨_, z5, z5a, z5b, e5, rfl⟩ := hq60
  subst e5
  obtain ⟨_, z6, e6, rfl⟩ := hq71
  subst e6
  obtain ⟨_, z7, e7, rfl⟩ := hq82
  subst e7
  exact k_vret C dX6_init_92 ⟨rfl, fun _ => h0, z0, z1, z2, z3, z4, z4a, z4b, z5, z5a, z5b, z6, z7, rfl, rfl⟩
/-! X7_init -/
theorem hin_X7_init_7 : ∀ w ∈ wsX70, w ∈ wsX7_init := fun _ h => List.mem_cons_of_mem _ (List.mem_append_right _ h)
abbrev rm_X7_init : Room := { frames := 1, cells := 16, slots := 443, locals := 21 }
theorem sg_X7_init : yX7_init.cls ≠ "java/lang/invoke/MethodHandle" ∧ yX7_init.cls ≠ "java/lang/invoke/VarHandle" ∧ (parseMethodDescriptor yX7_init.desc).map (fun d => d.parameters.length) = some 0 := by decide +kernel
set_option maxHeartbeats 4000000 in
set_option maxRecDepth 20000 in
theorem c_X7_init {l : Launch} {D : va_G} {cI cJ cZ : ClassId} (h0 : Nat) : KM l D (kT cI cJ cZ) 16 443 yX7_init wsX7_init rm_X7_init [.ref h0] [(h0, .inr (7, [.int (iI 0), .int (iI 0), .null, .null, .null, .null, .null, .int (iI 0), .null, .int (iI 0), .null, .null, .null, .null, .int (iI 0), .long (lL 0), .long (lL 0), .null, .null, .null, .int (iI 0), .int (iI 0), .int (iI 0), .null, .null, .null]))] (fun v w1 => v = none ∧ ∃ (q : Nat → Nat) (P0 : gMP), q 0 = h0 ∧ (Z10 P0.1 ∧ Z10 P0.2) ∧ (∀ g, 0 ≤ g → g < 10 → P0.1 g = -6 ∧ P0.2 g = -6) ∧ w1 = wdM cI cJ cZ q (6, 0, (fun _ => 0), (fun _ => 0), (fun _ => 0)) P0 ((fun _ => 0), (fun _ => 0)) (fun _ => 0) 0 (0, 0) (0, (fun _ => 0)) (0, (fun _ => 0)) ((fun _ => 0), (fun _ => 0)) (fun _ => 0) (0, 0, 0, (fun _ => 0)) ((fun _ => 0), (fun _ => 0))) := by
  refine KM_intro (lv := [(0, .ref h0)]) true rfl (by decide) (Nat.le_of_ble_eq_true rfl) rfl (fun _ => rfl) (fun v ws hq => Or.inl ⟨rfl, hq.1⟩) (fun A K C => ?_)
  refine k_aload_n C dX7_init_0 0 rfl rfl 1 rfl ?_
  refine k_obj C dX7_init_1 (List.mem_of_getElem? (i := 1) rfl) (List.mem_of_getElem? (i := 2) rfl) (List.mem_of_getElem? (i := 3) rfl) (Nat.le_of_ble_eq_true rfl) (Nat.le_of_ble_eq_true rfl) 4 rfl ?_
  refine k_aload_n C dX7_init_4 0 rfl rfl 5 rfl ?_
  refine k_bipush C dX7_init_5 (by decide) 7 rfl ?_
  refine k_put C dX7_init_7 0 rfl (ci := 7) rfl hin_X7_init_7 tyX7_ok nmX7 0 (by decide) (List.mem_of_getElem? (i := 4) rfl) rfl rfl rfl (Nat.le_of_ble_eq_true rfl) ([(h0, .inr (7, [.int (iI 6), .int (iI 0), .null, .null, .null, .null, .null, .int (iI 0), .null, .int (iI 0), .null, .null, .null, .null, .int (iI 0), .long (lL 0), .long (lL 0), .null, .null, .null, .int (iI 0), .int (iI 0), .int (iI 0), .null, .null, .null]))]) rfl 10 rfl ?_
  refine k_aload_n C dX7_init_10 0 rfl rfl 11 rfl ?_
  refine k_bipush C dX7_init_11 (by decide) 13 rfl ?_
  refine k_newA (N := 10) (10, .inl (mI (fun _ => 0))) C dX7_init_13 rfl (List.mem_of_getElem? (i := 5) rfl) 0 rfl (fun _ _ h => h) (arrI0 _) rfl (by decide) (Nat.le_of_ble_eq_true rfl) ⟨Nat.le_of_ble_eq_true rfl, Nat.le_of_ble_eq_true rfl⟩ 1 10 ⟨rfl, rfl⟩ (fun q13 => [(h0, .inr (7, [.int (iI 6), .int (iI 0), .null, .null, .null, .null, .null, .int (iI 0), .null, .int (iI 0), .null, .null, .null, .null, .int (iI 0), .long (lL 0), .long (lL 0), .null, .null, .null, .int (iI 0), .int (iI 0), .int (iI 0), .null, .null, .null])), (q13, .inl (cI, 10, .inl (mI (fun _ => 0))))]) (fun _ => rfl) 15 rfl (fun q13 => ?_)
  refine k_putF C dX7_init_15 0 rfl (ci := 7) rfl hin_X7_init_7 tyX7_ok nmX7 2 (by decide) (List.mem_of_getElem? (i := 6) rfl) rfl rfl rfl rfl rfl (Nat.le_of_ble_eq_true rfl) ([(h0, .inr (7, [.int (iI 6), .int (iI 0), .ref q13, .null, .null, .null, .null, .int (iI 0), .null, .int (iI 0), .null, .null, .null, .null, .int (iI 0), .long (lL 0), .long (lL 0), .null, .null, .null, .int (iI 0), .int (iI 0), .int (iI 0), .null, .null, .null])), (q13, .inl (cI, 10, .inl (mI (fun _ => 0))))]) rfl 18 rfl ?_
  refine k_aload_n C dX7_init_18 0 rfl rfl 19 rfl ?_
  refine k_bipush C dX7_init_19 (by decide) 21 rfl ?_
  refine k_newA (N := 10) (10, .inl (mI (fun _ => 0))) C dX7_init_21 rfl (List.mem_of_getElem? (i := 5) rfl) 0 rfl (fun _ _ h => h) (arrI0 _) rfl (by decide) (Nat.le_of_ble_eq_true rfl) ⟨Nat.le_of_ble_eq_true rfl, Nat.le_of_ble_eq_true rfl⟩ 2 20 ⟨rfl, rfl⟩ (fun q21 => [(h0, .inr (7, [.int (iI 6), .int (iI 0), .ref q13, .null, .null, .null, .null, .int (iI 0), .null, .int (iI 0), .null, .null, .null, .null, .int (iI 0), .long (lL 0), .long (lL 0), .null, .null, .null, .int (iI 0), .int (iI 0), .int (iI 0), .null, .null, .null])), (q13, .inl (cI, 10, .inl (mI (fun _ => 0)))), (q21, .inl (cI, 10, .inl (mI (fun _ => 0))))]) (fun _ => rfl) 23 rfl (fun q21 => ?_)
  refine k_putF C dX7_init_23 0 rfl (ci := 7) rfl hin_X7_init_7 tyX7_ok nmX7 3 (by decide) (List.mem_of_getElem? (i := 7) rfl) rfl rfl rfl rfl rfl (Nat.le_of_ble_eq_true rfl) ([(h0, .inr (7, [.int (iI 6), .int (iI 0), .ref q13, .ref q21, .null, .null, .null, .int (iI 0), .null, .int (iI 0), .null, .null, .null, .null, .int (iI 0), .long (lL 0), .long (lL 0), .null, .null, .null, .int (iI 0), .int (iI 0), .int (iI 0), .null, .null, .null])), (q13, .inl (cI, 10, .inl (mI (fun _ => 0)))), (q21, .inl (cI, 10, .inl (mI (fun _ => 0))))]) rfl 26 rfl ?_
  refine k_aload_n C dX7_init_26 0 rfl rfl 27 rfl ?_
  refine k_bipush C dX7_init_27 (by decide) 29 rfl ?_
  refine k_newA (N := 10) (10, .inl (mI (fun _ => 0))) C dX7_init_29 rfl (List.mem_of_getElem? (i := 5) rfl) 0 rfl (fun _ _ h => h) (arrI0 _) rfl (by decide) (Nat.le_of_ble_eq_true rfl) ⟨Nat.le_of_ble_eq_true rfl, Nat.le_of_ble_eq_true rfl⟩ 3 30 ⟨rfl, rfl⟩ (fun q29 => [(h0, .inr (7, [.int (iI 6), .int (iI 0), .ref q13, .ref q21, .null, .null, .null, .int (iI 0), .null, .int (iI 0), .null, .null, .null, .null, .int (iI 0), .long (lL 0), .long (lL 0), .null, .null, .null, .int (iI 0), .int (iI 0), .int (iI 0), .null, .null, .null])), (q13, .inl (cI, 10, .inl (mI (fun _ => 0)))), (q21, .inl (cI, 10, .inl (mI (fun _ => 0)))), (q29, .inl (cI, 10, .inl (mI (fun _ => 0))))]) (fun _ => rfl) 31 rfl (fun q29 => ?_)
  refine k_putF C dX7_init_31 0 rfl (ci := 7) rfl hin_X7_init_7 tyX7_ok nmX7 4 (by decide) (List.mem_of_getElem? (i := 8) rfl) rfl rfl rfl rfl rfl (Nat.le_of_ble_eq_true rfl) ([(h0, .inr (7, [.int (iI 6), .int (iI 0), .ref q13, .ref q21, .ref q29, .null, .null, .int (iI 0), .null, .int (iI 0), .null, .null, .null, .null, .int (iI 0), .long (lL 0), .long (lL 0), .null, .null, .null, .int (iI 0), .int (iI 0), .int (iI 0), .null, .null, .null])), (q13, .inl (cI, 10, .inl (mI (fun _ => 0)))), (q21, .inl (cI, 10, .inl (mI (fun _ => 0)))), (q29, .inl (cI, 10, .inl (mI (fun _ => 0))))]) rfl 34 rfl ?_
  refine k_aload_n C dX7_init_34 0 rfl rfl 35 rfl ?_
  refine k_bipush C dX7_init_35 (by decide) 37 rfl ?_
  refine k_newA (N := 10) (10, .inl (mI (fun _ => 0))) C dX7_init_37 rfl (List.mem_of_getElem? (i := 5) rfl) 0 rfl (fun _ _ h => h) (arrI0 _) rfl (by decide) (Nat.le_of_ble_eq_true rfl) ⟨Nat.le_of_ble_eq_true rfl, Nat.le_of_ble_eq_true rfl⟩ 4 40 ⟨rfl, rfl⟩ (fun q37 => [(h0, .inr (7, [.int (iI 6), .int (iI 0), .ref q13, .ref q21, .ref q29, .null, .null, .int (iI 0), .null, .int (iI 0), .null, .null, .null, .null, .int (iI 0), .long (lL 0), .long (lL 0), .null, .null, .null, .int (iI 0), .int (iI 0), .int (iI 0), .null, .null, .null])), (q13, .inl (cI, 10, .inl (mI (fun _ => 0)))), (q21, .inl (cI, 10, .inl (mI (fun _ => 0)))), (q29, .inl (cI, 10, .inl (mI (fun _ => 0)))), (q37, .inl (cI, 10, .inl (mI (fun _ => 0))))]) (fun _ => rfl) 39 rfl (fun q37 => ?_)
  refine k_putF C dX7_init_39 0 rfl (ci := 7) rfl hin_X7_init_7 tyX7_ok nmX7 5 (by decide) (List.mem_of_getElem? (i := 9) rfl) rfl rfl rfl rfl rfl (Nat.le_of_ble_eq_true rfl) ([(h0, .inr (7, [.int (iI 6), .int (iI 0), .ref q13, .ref q21, .ref q29, .ref q37, .null, .int (iI 0), .null, .int (iI 0), .null, .null, .null, .null, .int (iI 0), .long (lL 0), .long (lL 0), .null, .null, .null, .int (iI 0), .int (iI 0), .int (iI 0), .null, .null, .null])), (q13, .inl (cI, 10, .inl (mI (fun _ => 0)))), (q21, .inl (cI, 10, .inl (mI (fun _ => 0)))), (q29, .inl (cI, 10, .inl (mI (fun _ => 0)))), (q37, .inl (cI, 10, .inl (mI (fun _ => 0))))]) rfl 42 rfl ?_
  refine k_aload_n C dX7_init_42 0 rfl rfl 43 rfl ?_
  refine k_bipush C dX7_init_43 (by decide) 45 rfl ?_
  refine k_newA (N := 10) (10, .inl (mI (fun _ => 0))) C dX7_init_45 rfl (List.mem_of_getElem? (i := 5) rfl) 0 rfl (fun _ _ h => h) (arrI0 _) rfl (by decide) (Nat.le_of_ble_eq_true rfl) ⟨Nat.le_of_ble_eq_true rfl, Nat.le_of_ble_eq_true rfl⟩ 5 50 ⟨rfl, rfl⟩ (fun q45 => [(h0, .inr (7, [.int (iI 6), .int (iI 0), .ref q13, .ref q21, .ref q29, .ref q37, .null, .int (iI 0), .null, .int (iI 0), .null, .null, .null, .null, .int (iI 0), .long (lL 0), .long (lL 0), .null, .null, .null, .int (iI 0), .int (iI 0), .int (iI 0), .null, .null, .null])), (q13, .inl (cI, 10, .inl (mI (fun _ => 0)))), (q21, .inl (cI, 10, .inl (mI (fun _ => 0)))), (q29, .inl (cI, 10, .inl (mI (fun _ => 0)))), (q37, .inl (cI, 10, .inl (mI (fun _ => 0)))), (q45, .inl (cI, 10, .inl (mI (fun _ => 0))))]) (fun _ => rfl) 47 rfl (fun q45 => ?_)
  refine k_putF C dX7_init_47 0 rfl (ci := 7) rfl hin_X7_init_7 tyX7_ok nmX7 6 (by decide) (List.mem_of_getElem? (i := 10) rfl) rfl rfl rfl rfl rfl (Nat.le_of_ble_eq_true rfl) ([(h0, .inr (7, [.int (iI 6), .int (iI 0), .ref q13, .ref q21, .ref q29, .ref q37, .ref q45, .int (iI 0), .null, .int (iI 0), .null, .null, .null, .null, .int (iI 0), .long (lL 0), .long (lL 0), .null, .null, .null, .int (iI 0), .int (iI 0), .int (iI 0), .null, .null, .null])), (q13, .inl (cI, 10, .inl (mI (fun _ => 0)))), (q21, .inl (cI, 10, .inl (mI (fun _ => 0)))), (q29, .inl (cI, 10, .inl (mI (fun _ => 0)))), (q37, .inl (cI, 10, .inl (mI (fun _ => 0)))), (q45, .inl (cI, 10, .inl (mI (fun _ => 0))))]) rfl 50 rfl ?_
  refine k_aload_n C dX7_init_50 0 rfl rfl 51 rfl ?_
  refine k_bipush C dX7_init_51 (by decide) 53 rfl ?_
  refine k_newA (N := 16) (16, .inl (mI (fun _ => 0))) C dX7_init_53 rfl (List.mem_of_getElem? (i := 5) rfl) 0 rfl (fun _ _ h => h) (arrI0 _) rfl (by decide) (Nat.le_of_ble_eq_true rfl) ⟨Nat.le_of_ble_eq_true rfl, Nat.le_of_ble_eq_true rfl⟩ 6 66 ⟨rfl, rfl⟩ (fun q53 => [(h0, .inr (7, [.int (iI 6), .int (iI 0), .ref q13, .ref q21, .ref q29, .ref q37, .ref q45, .int (iI 0), .null, .int (iI 0), .null, .null, .null, .null, .int (iI 0), .long (lL 0), .long (lL 0), .null, .null, .null, .int (iI 0), .int (iI 0), .int (iI 0), .null, .null, .null])), (q13, .inl (cI, 10, .inl (mI (fun _ => 0)))), (q21, .inl (cI, 10, .inl (mI (fun _ => 0)))), (q29, .inl (cI, 10, .inl (mI (fun _ => 0)))), (q37, .inl (cI, 10, .inl (mI (fun _ => 0)))), (q45, .inl (cI, 10, .inl (mI (fun _ => 0)))), (q53, .inl (cI, 16, .inl (mI (fun _ => 0))))]) (fun _ => rfl) 55 rfl (fun q53 => ?_)
  refine k_putF C dX7_init_55 0 rfl (ci := 7) rfl hin_X7_init_7 tyX7_ok nmX7 8 (by decide) (List.mem_of_getElem? (i := 11) rfl) rfl rfl rfl rfl rfl (Nat.le_of_ble_eq_true rfl) ([(h0, .inr (7, [.int (iI 6), .int (iI 0), .ref q13, .ref q21, .ref q29, .ref q37, .ref q45, .int (iI 0), .ref q53, .int (iI 0), .null, .null, .null, .null, .int (iI 0), .long (lL 0), .long (lL 0), .null, .null, .null, .int (iI 0), .int (iI 0), .int (iI 0), .null, .null, .null])), (q13, .inl (cI, 10, .inl (mI (fun _ => 0)))), (q21, .inl (cI, 10, .inl (mI (fun _ => 0)))), (q29, .inl (cI, 10, .inl (mI (fun _ => 0)))), (q37, .inl (cI, 10, .inl (mI (fun _ => 0)))), (q45, .inl (cI, 10, .inl (mI (fun _ => 0)))), (q53, .inl (cI, 16, .inl (mI (fun _ => 0))))]) rfl 58 rfl ?_
  refine k_aload_n C dX7_init_58 0 rfl rfl 59 rfl ?_
  refine k_bipush C dX7_init_59 (by decide) 61 rfl ?_
  refine k_newA (N := 60) (60, .inl (mI (fun _ => 0))) C dX7_init_61 rfl (List.mem_of_getElem? (i := 5) rfl) 0 rfl (fun _ _ h => h) (arrI0 _) rfl (by decide) (Nat.le_of_ble_eq_true rfl) ⟨Nat.le_of_ble_eq_true rfl, Nat.le_of_ble_eq_true rfl⟩ 7 126 ⟨rfl, rfl⟩ (fun q61 => [(h0, .inr (7, [.int (iI 6), .int (iI 0), .ref q13, .ref q21, .ref q29, .ref q37, .ref q45, .int (iI 0), .ref q53, .int (iI 0), .null, .null, .null, .null, .int (iI 0), .long (lL 0), .long (lL 0), .null, .null, .null, .int (iI 0), .int (iI 0), .int (iI 0), .null, .null, .null])), (q13, .inl (cI, 10, .inl (mI (fun _ => 0)))), (q21, .inl (cI, 10, .inl (mI (fun _ => 0)))), (q29, .inl (cI, 10, .inl (mI (fun _ => 0)))), (q37, .inl (cI, 10, .inl (mI (fun _ => 0)))), (q45, .inl (cI, 10, .inl (mI (fun _ => 0)))), (q53, .inl (cI, 16, .inl (mI (fun _ => 0)))), (q61, .inl (cI, 60, .inl (mI (fun _ => 0))))]) (fun _ => rfl) 63 rfl (fun q61 => ?_)
  refine k_putF C dX7_init_63 0 rfl (ci := 7) rfl hin_X7_init_7 tyX7_ok nmX7 10 (by decide) (List.mem_of_getElem? (i := 12) rfl) rfl rfl rfl rfl rfl (Nat.le_of_ble_eq_true rfl) ([(h0, .inr (7, [.int (iI 6), .int (iI 0), .ref q13, .ref q21, .ref q29, .ref q37, .ref q45, .int (iI 0), .ref q53, .int (iI 0), .ref q61, .null, .null, .null, .int (iI 0), .long (lL 0), .long (lL 0), .null, .null, .null, .int (iI 0), .int (iI 0), .int (iI 0), .null, .null, .null])), (q13, .inl (cI, 10, .inl (mI (fun _ => 0)))), (q21, .inl (cI, 10, .inl (mI (fun _ => 0)))), (q29, .inl (cI, 10, .inl (mI (fun _ => 0)))), (q37, .inl (cI, 10, .inl (mI (fun _ => 0)))), (q45, .inl (cI, 10, .inl (mI (fun _ => 0)))), (q53, .inl (cI, 16, .inl (mI (fun _ => 0)))), (q61, .inl (cI, 60, .inl (mI (fun _ => 0))))]) rfl 66 rfl ?_
  refine k_aload_n C dX7_init_66 0 rfl rfl 67 rfl ?_
  refine k_bipush C dX7_init_67 (by decide) 69 rfl ?_
  refine k_newA (N := 10) (10, .inl (mI (fun _ => 0))) C dX7_init_69 rfl (List.mem_of_getElem? (i := 5) rfl) 0 rfl (fun _ _ h => h) (arrI0 _) rfl (by decide) (Nat.le_of_ble_eq_true rfl) ⟨Nat.le_of_ble_eq_true rfl, Nat.le_of_ble_eq_true rfl⟩ 8 136 ⟨rfl, rfl⟩ (fun q69 => [(h0, .inr (7, [.int (iI 6), .int (iI 0), .ref q13, .ref q21, .ref q29, .ref q37, .ref q45, .int (iI 0), .ref q53, .int (iI 0), .ref q61, .null, .null, .null, .int (iI 0), .long (lL 0), .long (lL 0), .null, .null, .null, .int (iI 0), .int (iI 0), .int (iI 0), .null, .null, .null])), (q13, .inl (cI, 10, .inl (mI (fun _ => 0)))), (q21, .inl (cI, 10, .inl (mI (fun _ => 0)))), (q29, .inl (cI, 10, .inl (mI (fun _ => 0)))), (q37, .inl (cI, 10, .inl (mI (fun _ => 0)))), (q45, .inl (cI, 10, .inl (mI (fun _ => 0)))), (q53, .inl (cI, 16, .inl (mI (fun _ => 0)))), (q61, .inl (cI, 60, .inl (mI (fun _ => 0)))), (q69, .inl (cI, 10, .inl (mI (fun _ => 0))))]) (fun _ => rfl) 71 rfl (fun q69 => ?_)
  refine k_putF C dX7_init_71 0 rfl (ci := 7) rfl hin_X7_init_7 tyX7_ok nmX7 11 (by decide) (List.mem_of_getElem? (i := 13) rfl) rfl rfl rfl rfl rfl (Nat.le_of_ble_eq_true rfl) ([(h0, .inr (7, [.int (iI 6), .int (iI 0), .ref q13, .ref q21, .ref q29, .ref q37, .ref q45, .int (iI 0), .ref q53, .int (iI 0), .ref q61, .ref q69, .null, .null, .int (iI 0), .long (lL 0), .long (lL 0), .null, .null, .null, .int (iI 0), .int (iI 0), .int (iI 0), .null, .null, .null])), (q13, .inl (cI, 10, .inl (mI (fun _ => 0)))), (q21, .inl (cI, 10, .inl (mI (fun _ => 0)))), (q29, .inl (cI, 10, .inl (mI (fun _ => 0)))), (q37, .inl (cI, 10, .inl (mI (fun _ => 0)))), (q45, .inl (cI, 10, .inl (mI (fun _ => 0)))), (q53, .inl (cI, 16, .inl (mI (fun _ => 0)))), (q61, .inl (cI, 60, .inl (mI (fun _ => 0)))), (q69, .inl (cI, 10, .inl (mI (fun _ => 0))))]) rfl 74 rfl ?_
  refine k_aload_n C dX7_init_74 0 rfl rfl 75 rfl ?_
  refine k_bipush C dX7_init_75 (by decide) 77 rfl ?_
  refine k_newA (N := 10) (10, .inl (mI (fun _ => 0))) C dX7_init_77 rfl (List.mem_of_getElem? (i := 5) rfl) 0 rfl (fun _ _ h => h) (arrI0 _) rfl (by decide) (Nat.le_of_ble_eq_true rfl) ⟨Nat.le_of_ble_eq_true rfl, Nat.le_of_ble_eq_true rfl⟩ 9 146 ⟨rfl, rfl⟩ (fun q77 => [(h0, .inr (7, [.int (iI 6), .int (iI 0), .ref q13, .ref q21, .ref q29, .ref q37, .ref q45, .int (iI 0), .ref q53, .int (iI 0), .ref q61, .ref q69, .null, .null, .int (iI 0), .long (lL 0), .long (lL 0), .null, .null, .null, .int (iI 0), .int (iI 0), .int (iI 0), .null, .null, .null])), (q13, .inl (cI, 10, .inl (mI (fun _ => 0)))), (q21, .inl (cI, 10, .inl (mI (fun _ => 0)))), (q29, .inl (cI, 10, .inl (mI (fun _ => 0)))), (q37, .inl (cI, 10, .inl (mI (fun _ => 0)))), (q45, .inl (cI, 10, .inl (mI (fun _ => 0)))), (q53, .inl (cI, 16, .inl (mI (fun _ => 0)))), (q61, .inl (cI, 60, .inl (mI (fun _ => 0)))), (q69, .inl (cI, 10, .inl (mI (fun _ => 0)))), (q77, .inl (cI, 10, .inl (mI (fun _ => 0))))]) (fun _ => rfl) 79 rfl (fun q77 => ?_)
  refine k_putF C dX7_init_79 0 rfl (ci := 7) rfl hin_X7_init_7 tyX7_ok nmX7 12 (by decide) (List.mem_of_getElem? (i := 14) rfl) rfl rfl rfl rfl rfl (Nat.le_of_ble_eq_true rfl) ([(h0, .inr (7, [.int (iI 6), .int (iI 0), .ref q13, .ref q21, .ref q29, .ref q37, .ref q45, .int (iI 0), .ref q53, .int (iI 0), .ref q61, .ref q69, .ref q77, .null, .int (iI 0), .long (lL 0), .long (lL 0), .null, .null, .null, .int (iI 0), .int (iI 0), .int (iI 0), .null, .null, .null])), (q13, .inl (cI, 10, .inl (mI (fun _ => 0)))), (q21, .inl (cI, 10, .inl (mI (fun _ => 0)))), (q29, .inl (cI, 10, .inl (mI (fun _ => 0)))), (q37, .inl (cI, 10, .inl (mI (fun _ => 0)))), (q45, .inl (cI, 10, .inl (mI (fun _ => 0)))), (q53, .inl (cI, 16, .inl (mI (fun _ => 0)))), (q61, .inl (cI, 60, .inl (mI (fun _ => 0)))), (q69, .inl (cI, 10, .inl (mI (fun _ => 0)))), (q77, .inl (cI, 10, .inl (mI (fun _ => 0))))]) rfl 82 rfl ?_
  refine k_aload_n C dX7_init_82 0 rfl rfl 83 rfl ?_
  refine k_bipush C dX7_init_83 (by decide) 85 rfl ?_
  refine k_newA (N := 10) (10, .inr (.inl (mL (fun _ => 0)))) C dX7_init_85 rfl (List.mem_of_getElem? (i := 15) rfl) 1 rfl (fun _ _ h => h) (arrJ0 _) rfl (by decide) (Nat.le_of_ble_eq_true rfl) ⟨Nat.le_of_ble_eq_true rfl, Nat.le_of_ble_eq_true rfl⟩ 10 156 ⟨rfl, rfl⟩ (fun q85 => [(h0, .inr (7, [.int (iI 6), .int (iI 0), .ref q13, .ref q21, .ref q29, .ref q37, .ref q45, .int (iI 0), .ref q53, .int (iI 0), .ref q61, .ref q69, .ref q77, .null, .int (iI 0), .long (lL 0), .long (lL 0), .null, .null, .null, .int (iI 0), .int (iI 0), .int (iI 0), .null, .null, .null])), (q13, .inl (cI, 10, .inl (mI (fun _ => 0)))), (q21, .inl (cI, 10, .inl (mI (fun _ => 0)))), (q29, .inl (cI, 10, .inl (mI (fun _ => 0)))), (q37, .inl (cI, 10, .inl (mI (fun _ => 0)))), (q45, .inl (cI, 10, .inl (mI (fun _ => 0)))), (q53, .inl (cI, 16, .inl (mI (fun _ => 0)))), (q61, .inl (cI, 60, .inl (mI (fun _ => 0)))), (q69, .inl (cI, 10, .inl (mI (fun _ => 0)))), (q77, .inl (cI, 10, .inl (mI (fun _ => 0)))), (q85, .inl (cJ, 10, .inr (.inl (mL (fun _ => 0)))))]) (fun _ => rfl) 87 rfl (fun q85 => ?_)
  refine k_putF C dX7_init_87 0 rfl (ci := 7) rfl hin_X7_init_7 tyX7_ok nmX7 13 (by decide) (List.mem_of_getElem? (i := 16) rfl) rfl rfl rfl rfl rfl (Nat.le_of_ble_eq_true rfl) ([(h0, .inr (7, [.int (iI 6), .int (iI 0), .ref q13, .ref q21, .ref q29, .ref q37, .ref q45, .int (iI 0), .ref q53, .int (iI 0), .ref q61, .ref q69, .ref q77, .ref q85, .int (iI 0), .long (lL 0), .long (lL 0), .null, .null, .null, .int (iI 0), .int (iI 0), .int (iI 0), .null, .null, .null])), (q13, .inl (cI, 10, .inl (mI (fun _ => 0)))), (q21, .inl (cI, 10, .inl (mI (fun _ => 0)))), (q29, .inl (cI, 10, .inl (mI (fun _ => 0)))), (q37, .inl (cI, 10, .inl (mI (fun _ => 0)))), (q45, .inl (cI, 10, .inl (mI (fun _ => 0)))), (q53, .inl (cI, 16, .inl (mI (fun _ => 0)))), (q61, .inl (cI, 60, .inl (mI (fun _ => 0)))), (q69, .inl (cI, 10, .inl (mI (fun _ => 0)))), (q77, .inl (cI, 10, .inl (mI (fun _ => 0)))), (q85, .inl (cJ, 10, .inr (.inl (mL (fun _ => 0)))))]) rfl 90 rfl ?_
  refine k_aload_n C dX7_init_90 0 rfl rfl 91 rfl ?_
  refine k_bipush C dX7_init_91 (by decide) 93 rfl ?_
  refine k_newA (N := 6) (6, .inl (mI (fun _ => 0))) C dX7_init_93 rfl (List.mem_of_getElem? (i := 5) rfl) 0 rfl (fun _ _ h => h) (arrI0 _) rfl (by decide) (Nat.le_of_ble_eq_true rfl) ⟨Nat.le_of_ble_eq_true rfl, Nat.le_of_ble_eq_true rfl⟩ 11 162 ⟨rfl, rfl⟩ (fun q93 => [(h0, .inr (7, [.int (iI 6), .int (iI 0), .ref q13, .ref q21, .ref q29, .ref q37, .ref q45, .int (iI 0), .ref q53, .int (iI 0), .ref q61, .ref q69, .ref q77, .ref q85, .int (iI 0), .long (lL 0), .long (lL 0), .null, .null, .null, .int (iI 0), .int (iI 0), .int (iI 0), .null, .null, .null])), (q13, .inl (cI, 10, .inl (mI (fun _ => 0)))), (q21, .inl (cI, 10, .inl (mI (fun _ => 0)))), (q29, .inl (cI, 10, .inl (mI (fun _ => 0)))), (q37, .inl (cI, 10, .inl (mI (fun _ => 0)))), (q45, .inl (cI, 10, .inl (mI (fun _ => 0)))), (q53, .inl (cI, 16, .inl (mI (fun _ => 0)))), (q61, .inl (cI, 60, .inl (mI (fun _ => 0)))), (q69, .inl (cI, 10, .inl (mI (fun _ => 0)))), (q77, .inl (cI, 10, .inl (mI (fun _ => 0)))), (q85, .inl (cJ, 10, .inr (.inl (mL (fun _ => 0))))), (q93, .inl (cI, 6, .inl (mI (fun _ => 0))))]) (fun _ => rfl) 95 rfl (fun q93 => ?_)
  refine k_putF C dX7_init_95 0 rfl (ci := 7) rfl hin_X7_init_7 tyX7_ok nmX7 17 (by decide) (List.mem_of_getElem? (i := 17) rfl) rfl rfl rfl rfl rfl (Nat.le_of_ble_eq_true rfl) ([(h0, .inr (7, [.int (iI 6), .int (iI 0), .ref q13, .ref q21, .ref q29, .ref q37, .ref q45, .int (iI 0), .ref q53, .int (iI 0), .ref q61, .ref q69, .ref q77, .ref q85, .int (iI 0), .long (lL 0), .long (lL 0), .ref q93, .null, .null, .int (iI 0), .int (iI 0), .int (iI 0), .null, .null, .null])), (q13, .inl (cI, 10, .inl (mI (fun _ => 0)))), (q21, .inl (cI, 10, .inl (mI (fun _ => 0)))), (q29, .inl (cI, 10, .inl (mI (fun _ => 0)))), (q37, .inl (cI, 10, .inl (mI (fun _ => 0)))), (q45, .inl (cI, 10, .inl (mI (fun _ => 0)))), (q53, .inl (cI, 16, .inl (mI (fun _ => 0)))), (q61, .inl (cI, 60, .inl (mI (fun _ => 0)))), (q69, .inl (cI, 10, .inl (mI (fun _ => 0)))), (q77, .inl (cI, 10, .inl (mI (fun _ => 0)))), (q85, .inl (cJ, 10, .inr (.inl (mL (fun _ => 0))))), (q93, .inl (cI, 6, .inl (mI (fun _ => 0))))]) rfl 98 rfl ?_
  refine k_aload_n C dX7_init_98 0 rfl rfl 99 rfl ?_
  refine k_bipush C dX7_init_99 (by decide) 101 rfl ?_
  refine k_newA (N := 6) (6, .inl (mI (fun _ => 0))) C dX7_init_101 rfl (List.mem_of_getElem? (i := 5) rfl) 0 rfl (fun _ _ h => h) (arrI0 _) rfl (by decide) (Nat.le_of_ble_eq_true rfl) ⟨Nat.le_of_ble_eq_true rfl, Nat.le_of_ble_eq_true rfl⟩ 12 168 ⟨rfl, rfl⟩ (fun q101 => [(h0, .inr (7, [.int (iI 6), .int (iI 0), .ref q13, .ref q21, .ref q29, .ref q37, .ref q45, .int (iI 0), .ref q53, .int (iI 0), .ref q61, .ref q69, .ref q77, .ref q85, .int (iI 0), .long (lL 0), .long (lL 0), .ref q93, .null, .null, .int (iI 0), .int (iI 0), .int (iI 0), .null, .null, .null])), (q13, .inl (cI, 10, .inl (mI (fun _ => 0)))), (q21, .inl (cI, 10, .inl (mI (fun _ => 0)))), (q29, .inl (cI, 10, .inl (mI (fun _ => 0)))), (q37, .inl (cI, 10, .inl (mI (fun _ => 0)))), (q45, .inl (cI, 10, .inl (mI (fun _ => 0)))), (q53, .inl (cI, 16, .inl (mI (fun _ => 0)))), (q61, .inl (cI, 60, .inl (mI (fun _ => 0)))), (q69, .inl (cI, 10, .inl (mI (fun _ => 0)))), (q77, .inl (cI, 10, .inl (mI (fun _ => 0)))), (q85, .inl (cJ, 10, .inr (.inl (mL (fun _ => 0))))), (q93, .inl (cI, 6, .inl (mI (fun _ => 0)))), (q101, .inl (cI, 6, .inl (mI (fun _ => 0))))]) (fun _ => rfl) 103 rfl (fun q101 => ?_)
  refine k_putF C dX7_init_103 0 rfl (ci := 7) rfl hin_X7_init_7 tyX7_ok nmX7 18 (by decide) (List.mem_of_getElem? (i := 18) rfl) rfl rfl rfl rfl rfl (Nat.le_of_ble_eq_true rfl) ([(h0, .inr (7, [.int (iI 6), .int (iI 0), .ref q13, .ref q21, .ref q29, .ref q37, .ref q45, .int (iI 0), .ref q53, .int (iI 0), .ref q61, .ref q69, .ref q77, .ref q85, .int (iI 0), .long (lL 0), .long (lL 0), .ref q93, .ref q101, .null, .int (iI 0), .int (iI 0), .int (iI 0), .null, .null, .null])), (q13, .inl (cI, 10, .inl (mI (fun _ => 0)))), (q21, .inl (cI, 10, .inl (mI (fun _ => 0)))), (q29, .inl (cI, 10, .inl (mI (fun _ => 0)))), (q37, .inl (cI, 10, .inl (mI (fun _ => 0)))), (q45, .inl (cI, 10, .inl (mI (fun _ => 0)))), (q53, .inl (cI, 16, .inl (mI (fun _ => 0)))), (q61, .inl (cI, 60, .inl (mI (fun _ => 0)))), (q69, .inl (cI, 10, .inl (mI (fun _ => 0)))), (q77, .inl (cI, 10, .inl (mI (fun _ => 0)))), (q85, .inl (cJ, 10, .inr (.inl (mL (fun _ => 0))))), (q93, .inl (cI, 6, .inl (mI (fun _ => 0)))), (q101, .inl (cI, 6, .inl (mI (fun _ => 0))))]) rfl 106 rfl ?_
  refine k_aload_n C dX7_init_106 0 rfl rfl 107 rfl ?_
  refine k_iconst C dX7_init_107 108 rfl ?_
  refine k_newA (N := 3) (3, .inl (mI (fun _ => 0))) C dX7_init_108 rfl (List.mem_of_getElem? (i := 5) rfl) 0 rfl (fun _ _ h => h) (arrI0 _) rfl (by decide) (Nat.le_of_ble_eq_true rfl) ⟨Nat.le_of_ble_eq_true rfl, Nat.le_of_ble_eq_true rfl⟩ 13 171 ⟨rfl, rfl⟩ (fun q108 => [(h0, .inr (7, [.int (iI 6), .int (iI 0), .ref q13, .ref q21, .ref q29, .ref q37, .ref q45, .int (iI 0), .ref q53, .int (iI 0), .ref q61, .ref q69, .ref q77, .ref q85, .int (iI 0), .long (lL 0), .long (lL 0), .ref q93, .ref q101, .null, .int (iI 0), .int (iI 0), .int (iI 0), .null, .null, .null])), (q13, .inl (cI, 10, .inl (mI (fun _ => 0)))), (q21, .inl (cI, 10, .inl (mI (fun _ => 0)))), (q29, .inl (cI, 10, .inl (mI (fun _ => 0)))), (q37, .inl (cI, 10, .inl (mI (fun _ => 0)))), (q45, .inl (cI, 10, .inl (mI (fun _ => 0)))), (q53, .inl (cI, 16, .inl (mI (fun _ => 0)))), (q61, .inl (cI, 60, .inl (mI (fun _ => 0)))), (q69, .inl (cI, 10, .inl (mI (fun _ => 0)))), (q77, .inl (cI, 10, .inl (mI (fun _ => 0)))), (q85, .inl (cJ, 10, .inr (.inl (mL (fun _ => 0))))), (q93, .inl (cI, 6, .inl (mI (fun _ => 0)))), (q101, .inl (cI, 6, .inl (mI (fun _ => 0)))), (q108, .inl (cI, 3, .inl (mI (fun _ => 0))))]) (fun _ => rfl) 110 rfl (fun q108 => ?_)
  refine k_putF C dX7_init_110 0 rfl (ci := 7) rfl hin_X7_init_7 tyX7_ok nmX7 19 (by decide) (List.mem_of_getElem? (i := 19) rfl) rfl rfl rfl rfl rfl (Nat.le_of_ble_eq_true rfl) ([(h0, .inr (7, [.int (iI 6), .int (iI 0), .ref q13, .ref q21, .ref q29, .ref q37, .ref q45, .int (iI 0), .ref q53, .int (iI 0), .ref q61, .ref q69, .ref q77, .ref q85, .int (iI 0), .long (lL 0), .long (lL 0), .ref q93, .ref q101, .ref q108, .int (iI 0), .int (iI 0), .int (iI 0), .null, .null, .null])), (q13, .inl (cI, 10, .inl (mI (fun _ => 0)))), (q21, .inl (cI, 10, .inl (mI (fun _ => 0)))), (q29, .inl (cI, 10, .inl (mI (fun _ => 0)))), (q37, .inl (cI, 10, .inl (mI (fun _ => 0)))), (q45, .inl (cI, 10, .inl (mI (fun _ => 0)))), (q53, .inl (cI, 16, .inl (mI (fun _ => 0)))), (q61, .inl (cI, 60, .inl (mI (fun _ => 0)))), (q69, .inl (cI, 10, .inl (mI (fun _ => 0)))), (q77, .inl (cI, 10, .inl (mI (fun _ => 0)))), (q85, .inl (cJ, 10, .inr (.inl (mL (fun _ => 0))))), (q93, .inl (cI, 6, .inl (mI (fun _ => 0)))), (q101, .inl (cI, 6, .inl (mI (fun _ => 0)))), (q108, .inl (cI, 3, .inl (mI (fun _ => 0))))]) rfl 113 rfl ?_
  refine k_aload_n C dX7_init_113 0 rfl rfl 114 rfl ?_
  refine k_bipush C dX7_init_114 (by decide) 116 rfl ?_
  refine k_newA (N := 110) (110, .inl (mI (fun _ => 0))) C dX7_init_116 rfl (List.mem_of_getElem? (i := 5) rfl) 0 rfl (fun _ _ h => h) (arrI0 _) rfl (by decide) (Nat.le_of_ble_eq_true rfl) ⟨Nat.le_of_ble_eq_true rfl, Nat.le_of_ble_eq_true rfl⟩ 14 281 ⟨rfl, rfl⟩ (fun q116 => [(h0, .inr (7, [.int (iI 6), .int (iI 0), .ref q13, .ref q21, .ref q29, .ref q37, .ref q45, .int (iI 0), .ref q53, .int (iI 0), .ref q61, .ref q69, .ref q77, .ref q85, .int (iI 0), .long (lL 0), .long (lL 0), .ref q93, .ref q101, .ref q108, .int (iI 0), .int (iI 0), .int (iI 0), .null, .null, .null])), (q13, .inl (cI, 10, .inl (mI (fun _ => 0)))), (q21, .inl (cI, 10, .inl (mI (fun _ => 0)))), (q29, .inl (cI, 10, .inl (mI (fun _ => 0)))), (q37, .inl (cI, 10, .inl (mI (fun _ => 0)))), (q45, .inl (cI, 10, .inl (mI (fun _ => 0)))), (q53, .inl (cI, 16, .inl (mI (fun _ => 0)))), (q61, .inl (cI, 60, .inl (mI (fun _ => 0)))), (q69, .inl (cI, 10, .inl (mI (fun _ => 0)))), (q77, .inl (cI, 10, .inl (mI (fun _ => 0)))), (q85, .inl (cJ, 10, .inr (.inl (mL (fun _ => 0))))), (q93, .inl (cI, 6, .inl (mI (fun _ => 0)))), (q101, .inl (cI, 6, .inl (mI (fun _ => 0)))), (q108, .inl (cI, 3, .inl (mI (fun _ => 0)))), (q116, .inl (cI, 110, .inl (mI (fun _ => 0))))]) (fun _ => rfl) 118 rfl (fun q116 => ?_)
  refine k_putF C dX7_init_118 0 rfl (ci := 7) rfl hin_X7_init_7 tyX7_ok nmX7 23 (by decide) (List.mem_of_getElem? (i := 20) rfl) rfl rfl rfl rfl rfl (Nat.le_of_ble_eq_true rfl) ([(h0, .inr (7, [.int (iI 6), .int (iI 0), .ref q13, .ref q21, .ref q29, .ref q37, .ref q45, .int (iI 0), .ref q53, .int (iI 0), .ref q61, .ref q69, .ref q77, .ref q85, .int (iI 0), .long (lL 0), .long (lL 0), .ref q93, .ref q101, .ref q108, .int (iI 0), .int (iI 0), .int (iI 0), .ref q116, .null, .null])), (q13, .inl (cI, 10, .inl (mI (fun _ => 0)))), (q21, .inl (cI, 10, .inl (mI (fun _ => 0)))), (q29, .inl (cI, 10, .inl (mI (fun _ => 0)))), (q37, .inl (cI, 10, .inl (mI (fun _ => 0)))), (q45, .inl (cI, 10, .inl (mI (fun _ => 0)))), (q53, .inl (cI, 16, .inl (mI (fun _ => 0)))), (q61, .inl (cI, 60, .inl (mI (fun _ => 0)))), (q69, .inl (cI, 10, .inl (mI (fun _ => 0)))), (q77, .inl (cI, 10, .inl (mI (fun _ => 0)))), (q85, .inl (cJ, 10, .inr (.inl (mL (fun _ => 0))))), (q93, .inl (cI, 6, .inl (mI (fun _ => 0)))), (q101, .inl (cI, 6, .inl (mI (fun _ => 0)))), (q108, .inl (cI, 3, .inl (mI (fun _ => 0)))), (q116, .inl (cI, 110, .inl (mI (fun _ => 0))))]) rfl 121 rfl ?_
  refine k_aload_n C dX7_init_121 0 rfl rfl 122 rfl ?_
  refine k_sipush C dX7_init_122 (by decide) 125 rfl ?_
  refine k_newA (N := 160) (160, .inl (mI (fun _ => 0))) C dX7_init_125 rfl (List.mem_of_getElem? (i := 5) rfl) 0 rfl (fun _ _ h => h) (arrI0 _) rfl (by decide) (Nat.le_of_ble_eq_true rfl) ⟨Nat.le_of_ble_eq_true rfl, Nat.le_of_ble_eq_true rfl⟩ 15 441 ⟨rfl, rfl⟩ (fun q125 => [(h0, .inr (7, [.int (iI 6), .int (iI 0), .ref q13, .ref q21, .ref q29, .ref q37, .ref q45, .int (iI 0), .ref q53, .int (iI 0), .ref q61, .ref q69, .ref q77, .ref q85, .int (iI 0), .long (lL 0), .long (lL 0), .ref q93, .ref q101, .ref q108, .int (iI 0), .int (iI 0), .int (iI 0), .ref q116, .null, .null])), (q13, .inl (cI, 10, .inl (mI (fun _ => 0)))), (q21, .inl (cI, 10, .inl (mI (fun _ => 0)))), (q29, .inl (cI, 10, .inl (mI (fun _ => 0)))), (q37, .inl (cI, 10, .inl (mI (fun _ => 0)))), (q45, .inl (cI, 10, .inl (mI (fun _ => 0)))), (q53, .inl (cI, 16, .inl (mI (fun _ => 0)))), (q61, .inl (cI, 60, .inl (mI (fun _ => 0)))), (q69, .inl (cI, 10, .inl (mI (fun _ => 0)))), (q77, .inl (cI, 10, .inl (mI (fun _ => 0)))), (q85, .inl (cJ, 10, .inr (.inl (mL (fun _ => 0))))), (q93, .inl (cI, 6, .inl (mI (fun _ => 0)))), (q101, .inl (cI, 6, .inl (mI (fun _ => 0)))), (q108, .inl (cI, 3, .inl (mI (fun _ => 0)))), (q116, .inl (cI, 110, .inl (mI (fun _ => 0)))), (q125, .inl (cI, 160, .inl (mI (fun _ => 0))))]) (fun _ => rfl) 127 rfl (fun q125 => ?_)
  refine k_putF C dX7_init_127 0 rfl (ci := 7) rfl hin_X7_init_7 tyX7_ok nmX7 24 (by decide) (List.mem_of_getElem? (i := 21) rfl) rfl rfl rfl rfl rfl (Nat.le_of_ble_eq_true rfl) ([(h0, .inr (7, [.int (iI 6), .int (iI 0), .ref q13, .ref q21, .ref q29, .ref q37, .ref q45, .int (iI 0), .ref q53, .int (iI 0), .ref q61, .ref q69, .ref q77, .ref q85, .int (iI 0), .long (lL 0), .long (lL 0), .ref q93, .ref q101, .ref q108, .int (iI 0), .int (iI 0), .int (iI 0), .ref q116, .ref q125, .null])), (q13, .inl (cI, 10, .inl (mI (fun _ => 0)))), (q21, .inl (cI, 10, .inl (mI (fun _ => 0)))), (q29, .inl (cI, 10, .inl (mI (fun _ => 0)))), (q37, .inl (cI, 10, .inl (mI (fun _ => 0)))), (q45, .inl (cI, 10, .inl (mI (fun _ => 0)))), (q53, .inl (cI, 16, .inl (mI (fun _ => 0)))), (q61, .inl (cI, 60, .inl (mI (fun _ => 0)))), (q69, .inl (cI, 10, .inl (mI (fun _ => 0)))), (q77, .inl (cI, 10, .inl (mI (fun _ => 0)))), (q85, .inl (cJ, 10, .inr (.inl (mL (fun _ => 0))))), (q93, .inl (cI, 6, .inl (mI (fun _ => 0)))), (q101, .inl (cI, 6, .inl (mI (fun _ => 0)))), (q108, .inl (cI, 3, .inl (mI (fun _ => 0)))), (q116, .inl (cI, 110, .inl (mI (fun _ => 0)))), (q125, .inl (cI, 160, .inl (mI (fun _ => 0))))]) rfl 130 rfl ?_
  refine k_aload_n C dX7_init_130 0 rfl rfl 131 rfl ?_
  refine k_iconst C dX7_init_131 132 rfl ?_
  refine k_newA (N := 2) (2, .inl (mI (fun _ => 0))) C dX7_init_132 rfl (List.mem_of_getElem? (i := 22) rfl) 2 rfl (fun _ _ h => h) (arrZ0 _) rfl (by decide) (Nat.le_of_ble_eq_true rfl) ⟨Nat.le_of_ble_eq_true rfl, Nat.le_of_ble_eq_true rfl⟩ 16 443 ⟨rfl, rfl⟩ (fun q132 => [(h0, .inr (7, [.int (iI 6), .int (iI 0), .ref q13, .ref q21, .ref q29, .ref q37, .ref q45, .int (iI 0), .ref q53, .int (iI 0), .ref q61, .ref q69, .ref q77, .ref q85, .int (iI 0), .long (lL 0), .long (lL 0), .ref q93, .ref q101, .ref q108, .int (iI 0), .int (iI 0), .int (iI 0), .ref q116, .ref q125, .null])), (q13, .inl (cI, 10, .inl (mI (fun _ => 0)))), (q21, .inl (cI, 10, .inl (mI (fun _ => 0)))), (q29, .inl (cI, 10, .inl (mI (fun _ => 0)))), (q37, .inl (cI, 10, .inl (mI (fun _ => 0)))), (q45, .inl (cI, 10, .inl (mI (fun _ => 0)))), (q53, .inl (cI, 16, .inl (mI (fun _ => 0)))), (q61, .inl (cI, 60, .inl (mI (fun _ => 0)))), (q69, .inl (cI, 10, .inl (mI (fun _ => 0)))), (q77, .inl (cI, 10, .inl (mI (fun _ => 0)))), (q85, .inl (cJ, 10, .inr (.inl (mL (fun _ => 0))))), (q93, .inl (cI, 6, .inl (mI (fun _ => 0)))), (q101, .inl (cI, 6, .inl (mI (fun _ => 0)))), (q108, .inl (cI, 3, .inl (mI (fun _ => 0)))), (q116, .inl (cI, 110, .inl (mI (fun _ => 0)))), (q125, .inl (cI, 160, .inl (mI (fun _ => 0)))), (q132, .inl (cZ, 2, .inl (mI (fun _ => 0))))]) (fun _ => rfl) 134 rfl (fun q132 => ?_)
  refine k_putF C dX7_init_134 0 rfl (ci := 7) rfl hin_X7_init_7 tyX7_ok nmX7 25 (by decide) (List.mem_of_getElem? (i := 23) rfl) rfl rfl rfl rfl rfl (Nat.le_of_ble_eq_true rfl) ([(h0, .inr (7, [.int (iI 6), .int (iI 0), .ref q13, .ref q21, .ref q29, .ref q37, .ref q45, .int (iI 0), .ref q53, .int (iI 0), .ref q61, .ref q69, .ref q77, .ref q85, .int (iI 0), .long (lL 0), .long (lL 0), .ref q93, .ref q101, .ref q108, .int (iI 0), .int (iI 0), .int (iI 0), .ref q116, .ref q125, .ref q132])), (q13, .inl (cI, 10, .inl (mI (fun _ => 0)))), (q21, .inl (cI, 10, .inl (mI (fun _ => 0)))), (q29, .inl (cI, 10, .inl (mI (fun _ => 0)))), (q37, .inl (cI, 10, .inl (mI (fun _ => 0)))), (q45, .inl (cI, 10, .inl (mI (fun _ => 0)))), (q53, .inl (cI, 16, .inl (mI (fun _ => 0)))), (q61, .inl (cI, 60, .inl (mI (fun _ => 0)))), (q69, .inl (cI, 10, .inl (mI (fun _ => 0)))), (q77, .inl (cI, 10, .inl (mI (fun _ => 0)))), (q85, .inl (cJ, 10, .inr (.inl (mL (fun _ => 0))))), (q93, .inl (cI, 6, .inl (mI (fun _ => 0)))), (q101, .inl (cI, 6, .inl (mI (fun _ => 0)))), (q108, .inl (cI, 3, .inl (mI (fun _ => 0)))), (q116, .inl (cI, 110, .inl (mI (fun _ => 0)))), (q125, .inl (cI, 160, .inl (mI (fun _ => 0)))), (q132, .inl (cZ, 2, .inl (mI (fun _ => 0))))]) rfl 137 rfl ?_
  refine k_aload_n C dX7_init_137 0 rfl rfl 138 rfl ?_
  refine k_st (K := K) _ (wdM cI cJ cZ (fun i => [h0, q13, q21, q29, q37, q45, q53, q61, q69, q77, q85, q93, q101, q108, q116, q125, q132].getD i 0) (6, 0, (fun _ => 0), (fun _ => 0), (fun _ => 0)) ((fun _ => 0), (fun _ => 0)) ((fun _ => 0), (fun _ => 0)) (fun _ => 0) 0 (0, 0) (0, (fun _ => 0)) (0, (fun _ => 0)) ((fun _ => 0), (fun _ => 0)) (fun _ => 0) (0, 0, 0, (fun _ => 0)) ((fun _ => 0), (fun _ => 0))) rfl rfl ?_
  have hM := c_X7_clear (l := l) (D := D) (cI := cI) (cJ := cJ) (cZ := cZ) (fun i => [h0, q13, q21, q29, q37, q45, q53, q61, q69, q77, q85, q93, q101, q108, q116, q125, q132].getD i 0) (6, 0, (fun _ => 0), (fun _ => 0), (fun _ => 0)) ((fun _ => 0), (fun _ => 0)) ((fun _ => 0), (fun _ => 0)) (fun _ => 0) 0 (0, 0) (0, (fun _ => 0)) (0, (fun _ => 0)) ((fun _ => 0), (fun _ => 0)) (fun _ => 0) (0, 0, 0, (fun _ => 0)) ((fun _ => 0), (fun _ => 0)) (fun B' P' G' => ∃ P0 : gMP, (Z10 P0.1 ∧ Z10 P0.2) ∧ (∀ g, 0 ≤ g → g < 10 → P0.1 g = -6 ∧ P0.2 g = -6) ∧ (B', P', G') = (((6, 0, (fun _ => 0), (fun _ => 0), (fun _ => 0)), P0, (0, (fun _ => 0))) : gMB × gMP × gMG)) (s_X7_clear ⟨fun _ _ => rfl, fun _ _ => rfl⟩ (fun P0 h1 h2 => ⟨P0, h1, h2, rfl⟩))
  refine k_callV C dX7_init_138 hM gX7_init_X7_clear rfl sg_X7_clear 7 rfl rfl rfl (Nat.le_of_ble_eq_true rfl) ⟨⟨rfl, rfl⟩, Nat.le_of_ble_eq_true rfl, Nat.le_of_ble_eq_true rfl⟩ ⟨Nat.le_of_ble_eq_true rfl, Nat.le_of_ble_eq_true rfl⟩ [0, 1, 2, 3, 4, 5, 6, 7, 8, 9, 10, 11, 12, 13, 14, 15, 16] [] rfl rfl rfl rfl (by decide) 16 443 ⟨rfl, rfl⟩ 141 rfl (fun v w1 hq => ?_)
  obtain ⟨B', P', G', rfl, rfl, P0, h1, h2, h3⟩ := hq
  rw [show B' = ((6, 0, (fun _ => 0), (fun _ => 0), (fun _ => 0)) : gMB) from congrArg (fun x : gMB × gMP × gMG => x.1) h3, show P' = P0 from congrArg (fun x : gMB × gMP × gMG => x.2.1) h3, show G' = ((0, (fun _ => 0)) : gMG) from congrArg (fun x : gMB × gMP × gMG => x.2.2) h3]
  exact k_vret C dX7_init_141 ⟨rfl, (fun i => [h0, q13, q21, q29, q37, q45, q53, q61, q69, q77, q85, q93, q101, q108, q116, q125, q132].getD i 0), P0, rfl, h1, h2, rfl⟩
