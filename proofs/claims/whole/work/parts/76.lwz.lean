/-! the law: its loop -/
set_option maxHeartbeats 4000000 in
set_option maxRecDepth 20000 in
theorem lw_loop {D : va_G} {A : Nat → Prop} {l : Launch} {K : KT} {cI cJ cZ : ClassId} {q : Nat → Nat → Nat} {b cs sl : Nat} {f : Int → Int} {Ln : Nat} (C : KC cL_law RL wsL_law room_1 4 D (kT cI cJ cZ) A l false (fun _ _ => False) 0 0 K) (sld : ∀ {pc n : Nat} {lv : List (Nat × Value)} {st : List Value} {ws : va_W} {i : Int}, decode cL_law pc = .ok (.iaload, 1) → 0 ≤ i → i < (Ln : Int) → pc + 1 = n → K cs sl n lv (.int (iI (f i)) :: st) ws → K cs sl pc lv (.int (iI i) :: .ref b :: st) ws) (slen : ∀ {pc n : Nat} {lv : List (Nat × Value)} {st : List Value} {ws : va_W}, decode cL_law pc = .ok (.arraylength, 1) → pc + 1 = n → K cs sl n lv (.int (iI (Ln : Int)) :: st) ws → K cs sl pc lv (.ref b :: st) ws) (hf : ∀ k, rI (f k)) (hL : Ln ≤ 320) (hcs : cs + 0 ≤ room_1.cells ∧ sl + 0 ≤ room_1.slots) (fin : ∀ lv ws, K cs sl 968 lv [.int (iI 1)] ws) (n : Nat) : ∀ {i : Int} {ws : va_W}, 0 ≤ i → (Ln : Int) - i ≤ n → i ≤ 400 → LRel cI cJ cZ q ws → K cs sl 18 [(3, .int (iI i)), (2, .ref (q 13 0)), (1, .ref (q 0 0)), (0, .ref b)] [] ws := by
  induction n with
  | zero =>
    intro i ws i0 hn hi hR
    refine k_iload_n C dL_law_18 0 rfl rfl 19 rfl ?_
    refine k_aload_n C dL_law_19 3 rfl rfl 20 rfl ?_
    refine slen dL_law_20 rfl ?_
    refine k_iconst C dL_law_21 22 rfl ?_
    refine k_isub C dL_law_22 23 rfl ?_
    refine k_icmp_gt C dL_law_23 ⟨⟨by omega, by omega⟩, ⟨by omega, by omega⟩⟩ 967 26 (by decide) rfl (fun z => ?_) (fun z => by omega)
    exact k_iconst C dL_law_967 968 rfl (fin _ _)
  | succ n ih =>
    intro i ws i0 hn hi hR
    refine k_iload_n C dL_law_18 0 rfl rfl 19 rfl ?_
    refine k_aload_n C dL_law_19 3 rfl rfl 20 rfl ?_
    refine slen dL_law_20 rfl ?_
    refine k_iconst C dL_law_21 22 rfl ?_
    refine k_isub C dL_law_22 23 rfl ?_
    refine k_icmp_gt C dL_law_23 ⟨⟨by omega, by omega⟩, ⟨by omega, by omega⟩⟩ 967 26 (by decide) rfl (fun z => ?_) (fun z => ?_)
    · exact k_iconst C dL_law_967 968 rfl (fin _ _)
    have i1 : i + 4 < (Ln : Int) := by omega
    have nx : ∀ ws', LRel cI cJ cZ q ws' → K cs sl 961 [(3, .int (iI i)), (2, .ref (q 13 0)), (1, .ref (q 0 0)), (0, .ref b)] [] ws' := fun ws' hR' => by
      refine k_iinc (j := 0) C dL_law_961 rfl (by decide) [(3, .int (iI (i + 5))), (2, .ref (q 13 0)), (1, .ref (q 0 0)), (0, .ref b)] rfl 964 rfl ?_
      refine k_goto C dL_law_964 18 (by decide) ?_
      exact ih (by omega) (by omega) (by omega) hR'
    refine k_aload_n C dL_law_26 3 rfl rfl 27 rfl ?_
    refine k_iload_n C dL_law_27 0 rfl rfl 28 rfl ?_
    refine sld dL_law_28 i0 (by omega) rfl ?_
    refine k_bipush C dL_law_29 (by decide) 31 rfl ?_
    refine k_iand C dL_law_31 32 rfl ?_
    have hx : rI (iand (f i) 31) := rI_32 _
    generalize iand (f i) 31 = x at hx ⊢
    by_cases e0 : x = 0
    · exact k_tsIn C dL_law_32 e0 (by decide) (by decide) (by decide) rfl 168 rfl (lst_wall C sld hf hcs i0 i1 hR nx)
    by_cases e1 : x = 1
    · exact k_tsIn C dL_law_32 e1 (by decide) (by decide) (by decide) rfl 191 rfl (lst_guest C sld hf hcs i0 i1 hR nx)
    by_cases e2 : x = 2
    · exact k_tsIn C dL_law_32 e2 (by decide) (by decide) (by decide) rfl 244 rfl (lst_say C sld hf hcs i0 i1 hR nx)
    by_cases e3 : x = 3
    · exact k_tsIn C dL_law_32 e3 (by decide) (by decide) (by decide) rfl 267 rfl (lst_wipe C sld hf hcs i0 i1 hR nx)
    by_cases e4 : x = 4
    · exact k_tsIn C dL_law_32 e4 (by decide) (by decide) (by decide) rfl 280 rfl (lst_fault C sld hf hcs i0 i1 hR nx)
    by_cases e5 : x = 5
    · exact k_tsIn C dL_law_32 e5 (by decide) (by decide) (by decide) rfl 293 rfl (lst_judge C sld hf hcs i0 i1 hR nx)
    by_cases e6 : x = 6
    · exact k_tsIn C dL_law_32 e6 (by decide) (by decide) (by decide) rfl 316 rfl (lst_done C sld hf hcs i0 i1 hR nx)
    by_cases e7 : x = 7
    · exact k_tsIn C dL_law_32 e7 (by decide) (by decide) (by decide) rfl 329 rfl (lst_state C sld hf hcs i0 i1 hR nx)
    by_cases e8 : x = 8
    · exact k_tsIn C dL_law_32 e8 (by decide) (by decide) (by decide) rfl 362 rfl (lst_behind C sld hf hcs i0 i1 hR nx)
    by_cases e9 : x = 9
    · exact k_tsIn C dL_law_32 e9 (by decide) (by decide) (by decide) rfl 395 rfl (lst_height C sld hf hcs i0 i1 hR nx)
    by_cases e10 : x = 10
    · exact k_tsIn C dL_law_32 e10 (by decide) (by decide) (by decide) rfl 418 rfl (lst_load C sld hf hcs i0 i1 hR nx)
    by_cases e11 : x = 11
    · exact k_tsIn C dL_law_32 e11 (by decide) (by decide) (by decide) rfl 452 rfl (lst_strain C sld hf hcs i0 i1 hR nx)
    by_cases e12 : x = 12
    · exact k_tsIn C dL_law_32 e12 (by decide) (by decide) (by decide) rfl 476 rfl (lst_bulges C sld hf hcs i0 i1 hR nx)
    by_cases e13 : x = 13
    · exact k_tsIn C dL_law_32 e13 (by decide) (by decide) (by decide) rfl 489 rfl (lst_touch C sld hf hcs i0 i1 hR nx)
    by_cases e14 : x = 14
    · exact k_tsIn C dL_law_32 e14 (by decide) (by decide) (by decide) rfl 512 rfl (lst_gaps C sld hf hcs i0 i1 hR nx)
    by_cases e15 : x = 15
    · exact k_tsIn C dL_law_32 e15 (by decide) (by decide) (by decide) rfl 535 rfl (lst_where C sld hf hcs i0 i1 hR nx)
    by_cases e16 : x = 16
    · exact k_tsIn C dL_law_32 e16 (by decide) (by decide) (by decide) rfl 558 rfl (lst_gate C sld hf hcs i0 i1 hR nx)
    by_cases e17 : x = 17
    · exact k_tsIn C dL_law_32 e17 (by decide) (by decide) (by decide) rfl 601 rfl (lst_orders C sld hf hcs i0 i1 hR nx)
    by_cases e18 : x = 18
    · exact k_tsIn C dL_law_32 e18 (by decide) (by decide) (by decide) rfl 624 rfl (lst_high C sld hf hcs i0 i1 hR nx)
    by_cases e19 : x = 19
    · exact k_tsIn C dL_law_32 e19 (by decide) (by decide) (by decide) rfl 647 rfl (lst_falls C sld hf hcs i0 i1 hR nx)
    by_cases e20 : x = 20
    · exact k_tsIn C dL_law_32 e20 (by decide) (by decide) (by decide) rfl 670 rfl (lst_key C sld hf hcs i0 i1 hR nx)
    by_cases e21 : x = 21
    · exact k_tsIn C dL_law_32 e21 (by decide) (by decide) (by decide) rfl 693 rfl (lst_seen C sld hf hcs i0 i1 hR nx)
    by_cases e22 : x = 22
    · exact k_tsIn C dL_law_32 e22 (by decide) (by decide) (by decide) rfl 726 rfl (lst_forget C sld hf hcs i0 i1 hR nx)
    by_cases e23 : x = 23
    · exact k_tsIn C dL_law_32 e23 (by decide) (by decide) (by decide) rfl 739 rfl (lst_who C sld hf hcs i0 i1 hR nx)
    by_cases e24 : x = 24
    · exact k_tsIn C dL_law_32 e24 (by decide) (by decide) (by decide) rfl 772 rfl (lst_look C sld hf hcs i0 i1 hR nx)
    by_cases e25 : x = 25
    · exact k_tsIn C dL_law_32 e25 (by decide) (by decide) (by decide) rfl 805 rfl (lst_weak C sld hf hcs i0 i1 hR nx)
    by_cases e26 : x = 26
    · exact k_tsIn C dL_law_32 e26 (by decide) (by decide) (by decide) rfl 849 rfl (lst_year C sld hf hcs i0 i1 hR nx)
    by_cases e27 : x = 27
    · exact k_tsIn C dL_law_32 e27 (by decide) (by decide) (by decide) rfl 892 rfl (lst_image C sld hf hcs i0 i1 hR nx)
    by_cases e28 : x = 28
    · exact k_tsIn C dL_law_32 e28 (by decide) (by decide) (by decide) rfl 915 rfl (lst_restore C sld hf hcs i0 i1 hR nx)
    by_cases e29 : x = 29
    · exact k_tsIn C dL_law_32 e29 (by decide) (by decide) (by decide) rfl 938 rfl (lst_told C sld hf hcs i0 i1 hR nx)
    exact k_tsOut C dL_law_32 hx (by omega) 961 rfl (nx _ hR)
