/-! the law's start -/
theorem ls_arr {s : State} {args : Array Value} {ty : FieldType} (h : (Cond.arrayClass ty).before args s = true) (hno : ∀ C, ty ≠ .object C) : ∃ cA : ClassId, ArrOfT s cA ty ∧ va_RA s cA ty := by
  obtain ⟨cA, kA, comp, h1, h2, h3⟩ := Cond.arrayClass_spec h
  refine ⟨cA, fun n z => ⟨fun k h => (by cases h), kA, h2, comp, h3⟩, ?_⟩
  cases ty <;> first | exact h1 | exact absurd rfl (hno _)
theorem ls_in {big ws : List Cond} (ps : List Nat) (hp : ws = ps.filterMap (fun i => big[i]?)) : ∀ w ∈ ws, w ∈ big := by
  intro w hw
  rw [hp] at hw
  obtain ⟨i, -, hi⟩ := List.mem_filterMap.mp hw
  exact List.mem_of_getElem? hi
set_option maxRecDepth 20000 in
theorem ls_nW : ∀ w ∈ nW, w ∈ lw_tbl := ls_in [62, 67, 69, 71, 73, 75, 77, 79, 83, 84, 85, 87, 115, 120, 132, 137, 146, 151, 153, 154, 156, 158, 168, 173, 175, 177, 190, 195, 197, 199, 201, 247, 261, 268, 285, 298, 313, 343, 386, 398, 401, 521, 529, 575, 592, 600, 605, 606, 641] (by decide +kernel)
theorem ls_MR {P0 : gMP} (h1 : Z10 P0.1 ∧ Z10 P0.2) (h2 : ∀ g, 0 ≤ g → g < 10 → P0.1 g = -6 ∧ P0.2 g = -6) (S1 S2 : gWS) (T1 T2 : gWT) (G1 G2 : gGG) : MR (6, 0, (fun _ => 0), (fun _ => 0), (fun _ => 0)) (0, (fun _ => 0), (fun _ => 0), (fun _ => 0), (fun _ => 0)) (0, (fun _ => 0), (fun _ => 0)) (0, (fun _ => 0)) 0 S1 T1 G1 0 S2 T2 G2 (6, 0, (fun _ => 0), (fun _ => 0), (fun _ => 0)) P0 ((fun _ => 0), (fun _ => 0)) (fun _ => 0) (0, (fun _ => 0)) (0, (fun _ => 0)) ((fun _ => 0), (fun _ => 0)) := by
  refine ⟨inv_empty ⟨by decide, S10_0, fun g g0 g1 => ⟨⟨Int.le_refl 0, (by decide : (0 : Int) ≤ 3)⟩, ⟨Int.le_refl 0, (by decide : (0 : Int) ≤ 20)⟩, ⟨Int.le_refl 0, (by decide : (0 : Int) ≤ 200)⟩, fun q => ?_⟩⟩ h1 h2, ⟨fun _ _ => rfl, fun _ _ => rfl, fun _ _ => rfl⟩, ⟨rfl, rfl, fun g g0 g1 => ⟨rfl, rfl, rfl⟩⟩, ⟨⟨S10_0, fun g g0 g1 => ?_⟩, fun g g0 g1 q => ?_, fun r c r0 r1 c0 c1 => ?_, fun c c0 c1 => ?_⟩, GR_0, ⟨rfl, ⟨Int.le_refl 0, by show (0 : Int) ≤ 60; omega⟩, fun j j0 j1 => by have j1 : j < 0 := j1; omega⟩, ⟨⟨fun _ _ => rfl, fun _ _ => rfl⟩, fun _ _ => rfl⟩, ⟨rfl, Or.inl rfl, fun y => absurd rfl y⟩, ⟨rfl, Or.inl rfl, fun y => absurd rfl y⟩⟩
  · have e : sb 0 g = false := sb_0 g
    rw [show sb ((6, 0, (fun _ => 0), (fun _ => 0), (fun _ => 0)) : gMB).2.1 g = sb 0 g from rfl, e] at q
    exact absurd q (by decide)
  · rw [show sb ((0, (fun _ => 0), (fun _ => 0), (fun _ => 0), (fun _ => 0)) : gWT).1 g = false from sb_0 g, decide_eq_false (by have := (h2 g g0 g1).1; omega)]
  · have := (h2 g g0 g1).1; omega
  · show (0 : Int) = _
    unfold cv
    rw [who_empty h2, if_neg (by omega)]
  · show (0 : Int) = _
    rw [hgt_empty h2]
/-! THE CLAIM OUT OF ONE WALK OF THE LAW'S BODY. Your part is whole_start (and what it stands on); all else here is the same for every law, but numbers. -/
def R_law : String := "GuestStonesLaw"
def lw_P (b : Addr) (xs : List Int32) (args : Array Value) (s : State) : Prop := args = #[.ref b] ∧ s.IntsAt b xs ∧ xs.length ≤ 320 ∧ (Jvm.Cond.and given_1 narrow_1).before args s = true
def lw_Q (_ : Array Value) (s : State) (o : Outcome) (t : State) : Prop := o = .returned (some (.int 1)) ∧ Framed s o t [] 600000 7302250
def lw_Z (below : List Frame) (a : Array Value) (s : State) : State → Prop := fun t => ∃ o, t.status = .running ∧ Ended t below o ∧ lw_Q a s o t
/-- the law's own end, with 1 on the stack, nothing written that was there before, its room as the claim has it -/
theorem lw_ret {p : Program} {l : Launch} {e : Env} {s : State} {m : MethodId} {below : List Frame} {meth : Method} {c : Code} {b : Nat} (hx : p.tables.exec = Jvm.exec) (hb : c.code = code) (hr : meth.sig.returnType = ret) (hlocks : meth.locks = false) {pc : Nat} {H : Heap} {ls : Array Slot} (hdg : decode code pc = .ok (.ireturn, 1)) : W p l e room_1 s m #[Value.ref b] below meth c H [] 600000 7302250 (lw_Z below #[Value.ref b] s) (F0 m pc ls [.int 1]) := by
  intro T hT X
  obtain ⟨fs, hret, hrun, hended, hW, hframe⟩ := X.leave (v := some (.int 1)) (hlocks := hlocks) (fun h => by rw [hr] at h; cases h)
  have hmeth' : T.vm.method? m = some meth := X.method'
  refine ⟨T.setFrames fs, ?_, .returned (some (.int 1)), hrun, hended, rfl, ⟨_, rfl⟩, hW, hframe⟩
  jvm_step X.here [X.here.top, hx, hb, hdg, hmeth', hr, ret, narrow_b1]
  (try refine ⟨rfl, ?_⟩); (try refine ⟨rfl, ?_⟩)
  first | (intro acts; rw [hret _ acts rfl rfl rfl]) | rw [hret _ _ rfl rfl rfl]
  exact Steps.refl _
/-- what holds at the law's entry: the machine, the code, the tables' words (any of lw_tbl by 'hts w (by decide +kernel)'), the script of L ints xs at the cell b, what the Statement gives of the start (any of its parts by flat_of_before) -/
def lw_At (p : Program) (s : State) (m : MethodId) (meth : Method) (c : Code) (b L : Nat) (xs : Nat → Int32) : Prop :=
  p.tables.exec = Jvm.exec ∧ c.code = code ∧ meth.sig.returnType = ret ∧ c.maxLocals = 4 ∧ s.vm.findClass R_law = some m.cls ∧ (∀ w ∈ lw_tbl, w.before #[Value.ref b] s = true) ∧ va_X b L xs s s.heap ∧ b < s.heap.size ∧ meth.locks = false ∧ (Jvm.Cond.and given_1 narrow_1).before #[Value.ref b] s = true
set_option maxHeartbeats 8000000 in
set_option maxRecDepth 20000 in
theorem whole_start {p : Program} {e : Env} {s : State} {m : MethodId} {below : List Frame} {meth : Method} {c : Code} (l : Launch) (hflags : l.flags = flags0) {b L : Nat} {xs : Nat → Int32} (hL : L ≤ 320) (C0 : lw_At p s m meth c b L xs) : W p l e room_1 s m #[Value.ref b] below meth c s.heap [] 0 0 (lw_Z below #[Value.ref b] s) (entryFrame m ([Value.ref b] : List Value).toArray 4) := by
  obtain ⟨hx, hb, hr, hml, hown, hts, hX, hbl, hlocks, hgv⟩ := C0
  have hts1 : ∀ w ∈ wsL_law, w.before #[Value.ref b] s = true := fun w hw => hts w (wsL_law_in w hw)
  obtain ⟨cI, aI⟩ := ls_arr (ty := .int) (hts1 _ (List.mem_of_getElem? (i := 42) rfl)) (fun _ h => by cases h)
  obtain ⟨cJ, aJ⟩ := ls_arr (ty := .long) (hts1 _ (List.mem_of_getElem? (i := 50) rfl)) (fun _ h => by cases h)
  obtain ⟨cZ, aZ⟩ := ls_arr (ty := .boolean) (hts1 _ (List.mem_of_getElem? (i := 98) rfl)) (fun _ h => by cases h)
  obtain ⟨d0, i0, k0⟩ := u_known (C := RX0) (T := TX0) (N := 3) hts1 inlX0 (hts1 _ (List.mem_of_getElem? (i := 26) rfl))
  obtain ⟨d1, i1, k1⟩ := u_known (C := RX1) (T := TX1) (N := 4) hts1 inlX1 (hts1 _ (List.mem_of_getElem? (i := 35) rfl))
  obtain ⟨d2, i2, k2⟩ := u_known (C := RX2) (T := TX2) (N := 2) hts1 inlX2 (hts1 _ (List.mem_of_getElem? (i := 22) rfl))
  obtain ⟨d3, i3, k3⟩ := u_known (C := RX3) (T := TX3) (N := 4) hts1 inlX3 (hts1 _ (List.mem_of_getElem? (i := 31) rfl))
  obtain ⟨d4, i4, k4⟩ := u_known (C := RX4) (T := TX4) (N := 3) hts1 inlX4 (hts1 _ (List.mem_of_getElem? (i := 18) rfl))
  obtain ⟨d5, i5, k5⟩ := u_known (C := RX5) (T := TX5) (N := 11) hts1 inlX5 (hts1 _ (List.mem_of_getElem? (i := 13) rfl))
  obtain ⟨d6, i6, k6⟩ := u_known (C := RX6) (T := TX6) (N := 8) hts1 inlX6 (hts1 _ (List.mem_of_getElem? (i := 1) rfl))
  obtain ⟨d7, i7, k7⟩ := u_known (C := RX7) (T := TX7) (N := 26) hts1 inlX7 (hts1 _ (List.mem_of_getElem? (i := 4) rfl))
  obtain ⟨D, eD⟩ : ∃ D : va_G, D = (fun k => [d0, d1, d2, d3, d4, d5, d6, d7].getD k d0, fun k => [i0, i1, i2, i3, i4, i5, i6, i7].getD k i0) := ⟨_, rfl⟩
  have hK : va_K D vwCl (kT cI cJ cZ) s := by
    subst eD
    refine ⟨fun k x hk => ?_, fun k x hk => ?_⟩
    · match k, hk with
      | 0, hk => cases hk; exact k0
      | 1, hk => cases hk; exact k1
      | 2, hk => cases hk; exact k2
      | 3, hk => cases hk; exact k3
      | 4, hk => cases hk; exact k4
      | 5, hk => cases hk; exact k5
      | 6, hk => cases hk; exact k6
      | 7, hk => cases hk; exact k7
      | k + 8, hk => cases hk
    · match k, hk with
      | 0, hk => cases hk; exact aI
      | 1, hk => cases hk; exact aJ
      | 2, hk => cases hk; exact aZ
      | k + 3, hk => cases hk
  have hN : nOk s := fun w hw => va_Nw.of (by
    have := nW_is w hw
    cases w <;> first | rfl | (simp [nIs] at this; done)) (hts w (ls_nW w hw))
  obtain ⟨K, eK⟩ : ∃ K : KT, K = fun cells slots pc lv st ws => ∀ (H : Heap) (locs : List Loc) (ls : Array Slot), va_P D vwCl ws H → va_D (fun q => s.heap.size ≤ q) ws → va_S (fun q => s.heap.size ≤ q) s.heap H locs → lv_has ls 4 lv → W p l e room_1 s m #[Value.ref b] below meth c H locs cells slots (lw_Z below #[Value.ref b] s) (F0 m pc ls st) := ⟨_, rfl⟩
  have C : KC cL_law RL wsL_law room_1 4 D (kT cI cJ cZ) (fun q => s.heap.size ≤ q) l false (fun _ _ => False) 0 0 K := ⟨p, e, s, m, #[Value.ref b], below, meth, c, lw_Z below #[Value.ref b] s, ⟨hx, hb, hml, hown, hts1⟩, hK, fun _ h => h, fun h => absurd h (by decide), hN, eK, fun _ _ _ _ _ h => h.elim⟩
  have sld : ∀ {cs sl pc n : Nat} {lv : List (Nat × Value)} {st : List Value} {ws : va_W} {i : Int}, decode cL_law pc = .ok (.iaload, 1) → 0 ≤ i → i < (L : Int) → pc + 1 = n → K cs sl n lv (.int (iI (xs i.toNat).toInt) :: st) ws → K cs sl pc lv (.int (iI i) :: .ref b :: st) ws := by
    intro cs sl pc n lv st ws i hd j0 j1 hn k
    subst hn eK
    intro H locs ls hP hD hS hl
    refine va_sld hx hb hX hbl (by omega) hS (iI_in ⟨j0, j1⟩ (by omega)) hd ?_
    have h := k H locs ls hP hD hS hl
    rw [iI_of] at h
    rw [iI_cl j0 (by omega)]
    exact h
  have slen : ∀ {cs sl pc n : Nat} {lv : List (Nat × Value)} {st : List Value} {ws : va_W}, decode cL_law pc = .ok (.arraylength, 1) → pc + 1 = n → K cs sl n lv (.int (iI (L : Int)) :: st) ws → K cs sl pc lv (.ref b :: st) ws := by
    intro cs sl pc n lv st ws hd hn k
    subst hn eK
    intro H locs ls hP hD hS hl
    refine va_slen hx hb hX hbl (by omega) hS hd ?_
    rw [show Int32.ofNat L = iI (L : Int) from (Int32.ofInt_eq_ofNat (n := L)).symm]
    exact k H locs ls hP hD hS hl
  have fin : ∀ lv ws, K 73 1411 968 lv [.int (iI 1)] ws := by
    intro lv ws
    subst eK
    intro H locs ls hP hD hS hl
    refine va_forget hS.2.2 (W.widen (Nat.le_of_ble_eq_true rfl : 73 ≤ 600000) (Nat.le_of_ble_eq_true rfl : 1411 ≤ 7302250) ?_)
    exact lw_ret hx hb hr hlocks dL_law_968
  have main : K 0 0 0 [(0, .ref b)] [] [] := by
    refine k_mkI C dL_law_0 dL_law_3 dL_law_4 (ci := 6) rfl inlX6 tyX6_ok (List.mem_of_getElem? (i := 0) rfl) (List.mem_of_getElem? (i := 1) rfl) (List.mem_of_getElem? (i := 2) rfl) bl_X6 (fun q => c_X6_init q) (fun _ _ _ h => h.1) gL_law_X6_init (List.mem_of_getElem? (i := 6) rfl) rfl sg_X6_init (List.mem_of_getElem? (i := 7) rfl) rfl (Nat.le_of_ble_eq_true rfl) ⟨⟨rfl, rfl⟩, Nat.le_of_ble_eq_true rfl, Nat.le_of_ble_eq_true rfl⟩ ⟨Nat.le_of_ble_eq_true rfl, Nat.le_of_ble_eq_true rfl⟩ 56 942 ⟨rfl, rfl⟩ 7 rfl (fun q0 w0 h0 => ?_)
    refine k_astore_n C dL_law_7 rfl (by decide) [(1, .ref q0), (0, .ref b)] rfl 8 rfl ?_
    refine k_mkI C dL_law_8 dL_law_11 dL_law_12 (ci := 7) rfl inlX7 tyX7_ok (List.mem_of_getElem? (i := 3) rfl) (List.mem_of_getElem? (i := 4) rfl) (List.mem_of_getElem? (i := 5) rfl) bl_X7 (fun q => c_X7_init q) (fun _ _ _ h => h.1) gL_law_X7_init (List.mem_of_getElem? (i := 78) rfl) rfl sg_X7_init (List.mem_of_getElem? (i := 79) rfl) rfl (Nat.le_of_ble_eq_true rfl) ⟨⟨rfl, rfl⟩, Nat.le_of_ble_eq_true rfl, Nat.le_of_ble_eq_true rfl⟩ ⟨Nat.le_of_ble_eq_true rfl, Nat.le_of_ble_eq_true rfl⟩ 73 1411 ⟨rfl, rfl⟩ 15 rfl (fun q1 w1 h1 => ?_)
    refine k_astore_n C dL_law_15 rfl (by decide) [(2, .ref q1), (1, .ref q0), (0, .ref b)] rfl 16 rfl ?_
    refine k_iconst C dL_law_16 17 rfl ?_
    refine k_istore_n C dL_law_17 rfl (by decide) [(3, .int (iI 0)), (2, .ref q1), (1, .ref q0), (0, .ref b)] rfl 18 rfl ?_
    obtain ⟨_, a0, a1, a2, a3, a4, a5, a6, a7, a8, a9, a10, a11, a12, e0, rfl⟩ := h0
    obtain ⟨_, a13, P0, e1, hz, h6, rfl⟩ := h1
    subst e0 e1
    refine lw_loop (q := fun k => match k with | 0 => a0 | 1 => a1 | 2 => a2 | 3 => a3 | 4 => a4 | 5 => a5 | 6 => a6 | 7 => a7 | 8 => a8 | 9 => a9 | 10 => a10 | 11 => a11 | 12 => a12 | _ => a13) (f := fun i => (xs i.toNat).toInt) C sld slen (fun k => rI_32 _) hL ⟨Nat.le_of_ble_eq_true rfl, Nat.le_of_ble_eq_true rfl⟩ fin 320 (Int.le_refl 0) (by omega) (by omega) ?_
    refine ⟨(6, 0, (fun _ => 0), (fun _ => 0), (fun _ => 0)), (0, (fun _ => 0), (fun _ => 0), (fun _ => 0), (fun _ => 0)), (fun _ => 0), (6, 0, (fun _ => 0), (fun _ => 0), (fun _ => 0)), (0, (fun _ => 0), (fun _ => 0), (fun _ => 0), (fun _ => 0)), (fun _ => 0), (0, (fun _ => 0), (fun _ => 0)), (0, (fun _ => 0)), 0, (6, 0, (fun _ => 0), (fun _ => 0), (fun _ => 0)), (0, (fun _ => 0), (fun _ => 0), (fun _ => 0), (fun _ => 0)), (fun _ => 0), (0, (fun _ => 0), (fun _ => 0)), 0, (6, 0, (fun _ => 0), (fun _ => 0), (fun _ => 0)), (0, (fun _ => 0), (fun _ => 0), (fun _ => 0), (fun _ => 0)), (fun _ => 0), (0, (fun _ => 0), (fun _ => 0)), (0, 0, 0, (fun _ => 0)), (fun _ => 0), (0, (fun _ => 0), (fun _ => 0)), (6, 0, (fun _ => 0), (fun _ => 0), (fun _ => 0)), P0, ((fun _ => 0), (fun _ => 0)), (fun _ => 0), 0, (0, 0), (0, (fun _ => 0)), (0, (fun _ => 0)), ((fun _ => 0), (fun _ => 0)), (fun _ => 0), (0, 0, 0, (fun _ => 0)), ((fun _ => 0), (fun _ => 0)), List.Perm.of_eq ?_, ls_MR hz h6 _ _ _ _ _ _⟩
    simp only [gall, List.flatMap_cons, List.flatMap_nil, List.append_assoc, List.append_nil, List.nil_append]
    rfl
  have hl := lv_entry ([.ref b]) (n := 4) (Nat.le_of_ble_eq_true rfl)
  rw [lg_entry_eq]
  subst eK
  exact (main : ∀ (H : Heap) (locs : List Loc) (ls : Array Slot), va_P D vwCl [] H → va_D (fun q => s.heap.size ≤ q) [] → va_S (fun q => s.heap.size ≤ q) s.heap H locs → lv_has ls 4 [(0, .ref b)] → W p l e room_1 s m #[Value.ref b] below meth c H locs 0 0 (lw_Z below #[Value.ref b] s) (F0 m 0 ls [])) s.heap [] _ (fun k x hk => absurd hk (by simp)) ⟨fun i j x y hi => absurd hi (by simp), fun k x hk => absurd hk (by simp)⟩ va_S.rf hl
