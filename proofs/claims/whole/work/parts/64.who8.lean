/-! who, look: the class's answers -/
def seenB (H : gMG) (c : Int) : Bool := itI (fun k b => b || decide (H.2 (2 * k) = c)) 0 H.1 false
theorem seen_iff {H : gMG} {c : Int} (h0 : 0 ≤ H.1) : seenB H c = true ↔ ∃ k, 0 ≤ k ∧ k < H.1 ∧ H.2 (2 * k) = c := by
  refine itI_ind (f := fun k b => b || decide (H.2 (2 * k) = c)) (s := false) (P := fun i (b : Bool) => b = true ↔ ∃ k, 0 ≤ k ∧ k < i ∧ H.2 (2 * k) = c) h0 ⟨fun q => absurd q (by decide), fun ⟨k, _, _, _⟩ => by omega⟩ (fun i b i0 i1 h => ?_)
  rw [Bool.or_eq_true, decide_eq_true_eq, h]
  constructor
  · rintro (⟨k, k0, k1, e⟩ | e)
    · exact ⟨k, k0, by omega, e⟩
    · exact ⟨i, i0, by omega, e⟩
  · rintro ⟨k, k0, k1, e⟩
    by_cases z : k = i
    · subst z; exact Or.inr e
    · exact Or.inl ⟨k, k0, by omega, e⟩
theorem s_hasSeen {n : Int} {G : gGG} {H : gMG} {c : Int} {Q : Int → Prop} (hn : n ≤ 10) (hG : GR n G H) (hc : rI c) (h1 : seenB H c = true → Q 1) (h0 : seenB H c = false → Q 0) : wp_X4_hasSeen G c Q := by
  obtain ⟨e1, e2, e3⟩ := hG
  unfold wp_X4_hasSeen
  rw [e1]
  refine lp_inv (fun m i (_ : Unit) => wp_X4_hasSeen_7 G (Q 1) (Q 0) Q m c H.1 i) H.1 (fun i _ => 0 ≤ i ∧ ∀ k, 0 ≤ k → k < i → H.2 (2 * k) ≠ c) ?_ ?_ 0 () (by omega) ⟨by omega, fun k _ _ => by omega⟩
  · rintro m _ ⟨i0, e⟩
    show wp_X4_hasSeen_7 _ _ _ _ (m + 1) _ _ _
    unfold wp_X4_hasSeen_7
    refine ⟨⟨by omega, by omega⟩, ⟨by omega, by omega⟩, fun _ => h0 ?_, fun q => absurd (Int.le_refl _) q⟩
    cases hs : seenB H c
    · rfl
    · obtain ⟨k, k0, k1, z⟩ := (seen_iff i0).mp hs
      exact absurd z (e k k0 k1)
  · rintro m i _ hlt ⟨i0, e⟩ ih
    obtain ⟨f1, f2, f3, f4⟩ := e3 i i0 hlt
    show wp_X4_hasSeen_7 _ _ _ _ (m + 1) _ _ _
    unfold wp_X4_hasSeen_7
    refine ⟨⟨by omega, by omega⟩, ⟨by omega, by omega⟩, fun q => by omega, fun _ => s_at ⟨i0, by omega⟩ (by decide) ?_⟩
    rw [f1]
    refine ⟨⟨by omega, by omega⟩, hc, fun z => ih () ⟨by omega, fun k k0 k1 => ?_⟩, fun z => h1 ((seen_iff (by omega)).mpr ⟨i, i0, hlt, Decidable.of_not_not z⟩)⟩
    by_cases q : k = i
    · subst q; exact z
    · exact e k k0 (by omega)
def mostF (B : gMB) (H : gMG) (A : RA) (c : Int) : Int := itI (fun h m => max m (A (phT B H c h))) 0 11 0
theorem most_r {B : gMB} {H : gMG} {A : RA} {c : Int} (hA : AOk B H A) : 0 ≤ mostF B H A c ∧ mostF B H A c ≤ A (phC B H) :=
  itI_ind (f := fun h m => max m (A (phT B H c h))) (s := 0) (lo := 0) (hi := 11) (P := fun _ (m : Int) => 0 ≤ m ∧ m ≤ A (phC B H)) (by omega) ⟨Int.le_refl 0, hA.1⟩ (fun h m _ _ q => by
    have := hA.2.2 c h
    omega)
theorem s_mostLeft {B : gMB} {H : gMG} {A : RA} {R : gRR} {c : Int} {Q : Int → Prop} (hR : RRel B H A R) (hA : A (phC B H) ≤ 2000000) (hc : 0 ≤ c ∧ c < 9) (h : Q (mostF B H A c)) : wp_X3_mostLeft R c Q := by
  obtain ⟨h0, h1, h2, h3, h4⟩ := hR
  unfold wp_X3_mostLeft
  refine lp_inv (fun m i (x : Int) => wp_X3_mostLeft_4 R (fun x => Q x) Q m c x i) 11 (fun i x => 0 ≤ i ∧ (0 ≤ x ∧ x ≤ A (phC B H)) ∧ x = itI (fun h m => max m (A (phT B H c h))) 0 i 0) ?_ ?_ 0 0 (by omega) ⟨by omega, ⟨Int.le_refl 0, h0.1⟩, (itI_0 (by omega)).symm⟩
  · rintro m x ⟨_, _, rfl⟩
    show wp_X3_mostLeft_4 _ _ _ (m + 1) _ _ _
    unfold wp_X3_mostLeft_4
    exact ⟨by decide, fun _ => h, fun q => absurd (Int.le_refl _) q⟩
  · rintro m i x hlt ⟨i0, xr, e⟩ ih
    show wp_X3_mostLeft_4 _ _ _ (m + 1) _ _ _
    unfold wp_X3_mostLeft_4
    refine ⟨⟨by omega, by omega⟩, fun q => by omega, fun _ => s_at ⟨by omega, by omega⟩ (by decide) ?_⟩
    rw [h4 c i hc.1 hc.2 i0 hlt]
    have := h0.2.2 c i
    refine ⟨⟨by omega, by omega⟩, ⟨by omega, by omega⟩, ih _ ⟨by omega, by omega, ?_⟩⟩
    rw [itI_s i0, ← e]
def lkF (B : gMB) (H : gMG) (A : RA) : Int → Int × Int → Int × Int := fun c s => if seenB H c = true then s else if s.1 = -6 ∨ mostF B H A c < s.2 then (c, mostF B H A c) else s
def lkV (B : gMB) (H : gMG) (A : RA) : Int × Int := itI (lkF B H A) 0 B.1 (-6, -6)
def WA (B : gMB) (N : gMN) (p : Int) : RA := fun φ => WS B p.toNat N 0 φ
def vLook (B : gMB) (H : gMG) (N : gMN) (p w : Int) : Int := if (0 ≤ p ∧ p ≤ 2) ∧ (0 ≤ w ∧ w ≤ 1) then (if WA B N p (phC B H) = 0 then -6 else if w = 0 then (lkV B H (WA B N p)).1 else (lkV B H (WA B N p)).2) else -2
def VWho (B : gMB) (H : gMG) (N : gMN) (p w v : Int) : Prop := (¬ ((0 ≤ p ∧ p ≤ 2) ∧ (0 ≤ w ∧ w ≤ 2)) → v = -2) ∧ ((0 ≤ p ∧ p ≤ 2) ∧ (0 ≤ w ∧ w ≤ 2) → (w = 0 → v = WA B N p (phC B H)) ∧ (w = 1 → S10 v ∧ ∀ g, 0 ≤ g → g < 10 → sb v g = decide (0 < WA B N p (phG B H g))) ∧ (w = 2 → S10 v ∧ (WA B N p (phC B H) ≠ 0 → ∀ g, 0 ≤ g → g < 10 → sb v g = decide (WA B N p (phG B H g) = WA B N p (phC B H))) ∧ (WA B N p (phC B H) = 0 → v = 0)))
theorem VWho_one {B : gMB} {H : gMG} {N : gMN} {p w v v' : Int} (h : VWho B H N p w v) (h' : VWho B H N p w v') : v = v' := by
  by_cases q : (0 ≤ p ∧ p ≤ 2) ∧ (0 ≤ w ∧ w ≤ 2)
  · obtain ⟨a0, a1, a2⟩ := h.2 q
    obtain ⟨b0, b1, b2⟩ := h'.2 q
    by_cases w0 : w = 0
    · rw [a0 w0, b0 w0]
    · by_cases w1 : w = 1
      · obtain ⟨s1, e1⟩ := a1 w1
        obtain ⟨s2, e2⟩ := b1 w1
        exact sb_ext s1 s2 (fun g g0 g1 => by rw [e1 g g0 g1, e2 g g0 g1])
      · obtain ⟨s1, e1, z1⟩ := a2 (by omega)
        obtain ⟨s2, e2, z2⟩ := b2 (by omega)
        by_cases z : WA B N p (phC B H) = 0
        · rw [z1 z, z2 z]
        · exact sb_ext s1 s2 (fun g g0 g1 => by rw [e1 z g g0 g1, e2 z g g0 g1])
  · rw [h.1 q, h'.1 q]
theorem s_who {B : gMB} {N : gMN} {S Sr : gWS} {T Tr : gWT} {Ur : gWU} {G : gGG} {H : gMG} {R : gRR} {p w : Int} {Q : Int → gWS → gWT → gWU → gRR → Prop} (hI : Inv B N) (hS : SR B S) (hT : TR B N T) (hG : GR B.1 G H) (hp : rI p) (hw : rI w) (h : ∀ v S' T' U' R', VWho B H N p w v → Q v S' T' U' R') : wp_X6_who S T Sr Tr Ur G R p w Q := by
  unfold wp_X6_who
  refine s_isOutside hp (by decide) (by decide) (fun p0 p2 => ⟨fun q => absurd rfl q, fun _ => ?_⟩) (fun q => ⟨fun _ => h _ _ _ _ _ ⟨fun _ => rfl, fun z => absurd z.1 q⟩, fun z => absurd (by decide) z⟩)
  refine s_isOutside hw (by decide) (by decide) (fun w0 w2 => ⟨fun _ => ?_, fun q => absurd rfl q⟩) (fun q => ⟨fun z => absurd z (by decide), fun _ => h _ _ _ _ _ ⟨fun _ => rfl, fun z => absurd z.2 q⟩⟩)
  obtain ⟨k, rfl⟩ := Int.eq_ofNat_of_zero_le p0
  refine s_findRows hI hS hT hG (by omega) (fun S' T' U' R' hR => ?_)
  obtain ⟨h0, h1, h2, h3, h4⟩ := hR
  have hin : (0 ≤ (k : Int) ∧ (k : Int) ≤ 2) ∧ (0 ≤ w ∧ w ≤ 2) := ⟨⟨p0, p2⟩, w0, w2⟩
  have hk : WA B N (k : Int) = fun φ => WS B k N 0 φ := funext fun φ => by unfold WA; rw [Int.toNat_natCast]
  refine ⟨hw, fun a => ⟨fun b => h _ _ _ _ _ ⟨fun z => absurd hin z, fun _ => ⟨fun z => absurd z a, fun z => absurd z b, fun _ => ?_⟩⟩, fun b => h _ _ _ _ _ ⟨fun z => absurd hin z, fun _ => ⟨fun z => absurd z a, fun _ => ?_, fun z => by omega⟩⟩⟩, fun a => h _ _ _ _ _ ⟨fun z => absurd hin z, fun _ => ⟨fun _ => ?_, fun z => by omega, fun z => by omega⟩⟩⟩
  · rw [hk]; exact h3
  · rw [hk]; exact h2
  · rw [hk]; exact h1
theorem s_look {B : gMB} {N : gMN} {S Sr : gWS} {T Tr : gWT} {Ur : gWU} {G : gGG} {H : gMG} {R : gRR} {p w : Int} {Q : Int → gWS → gWT → gWU → gRR → Prop} (hI : Inv B N) (hS : SR B S) (hT : TR B N T) (hG : GR B.1 G H) (hp : rI p) (hw : rI w) (h : ∀ S' T' U' R', Q (vLook B H N p w) S' T' U' R') : wp_X6_look S T Sr Tr Ur G R p w Q := by
  have hn := hI.1.1
  unfold wp_X6_look
  unfold vLook at h
  refine s_isOutside hp (by decide) (by decide) (fun p0 p2 => ⟨fun q => absurd rfl q, fun _ => ?_⟩) (fun q => ⟨fun _ => by rw [if_neg (fun z => q z.1)] at h; exact h _ _ _ _, fun z => absurd (by decide) z⟩)
  refine s_isOutside hw (by decide) (by decide) (fun w0 w2 => ⟨fun _ => ?_, fun q => absurd rfl q⟩) (fun q => ⟨fun z => absurd z (by decide), fun _ => by rw [if_neg (fun z => q z.2)] at h; exact h _ _ _ _⟩)
  rw [if_pos ⟨⟨p0, p2⟩, w0, w2⟩] at h
  obtain ⟨k, rfl⟩ := Int.eq_ofNat_of_zero_le p0
  have hk : WA B N (k : Int) = fun φ => WS B k N 0 φ := funext fun φ => by unfold WA; rw [Int.toNat_natCast]
  rw [hk] at h
  have hp3 := p100_3 (show k ≤ 3 by omega)
  have hAr := (WS_r (B := B) (φ := phC B H) phC_r (p := k) (N := N) (b := 0))
  refine s_findRows hI hS hT hG (by omega) (fun S' T' U' R' hR => ?_)
  obtain ⟨A, eA⟩ : ∃ A : RA, (fun φ => WS B k N 0 φ) = A := ⟨_, rfl⟩
  have eAC : WS B k N 0 (phC B H) = A (phC B H) := congrFun eA (phC B H)
  rw [eA] at h hR
  rw [eAC] at hAr
  have h1 := hR.2.1
  rw [h1]
  refine ⟨⟨by omega, by omega⟩, fun z => ?_, fun z => by rw [if_pos (Decidable.of_not_not z)] at h; exact h _ _ _ _⟩
  rw [if_neg z] at h
  rw [hS.1]
  refine lp_inv (fun m c (s : Int × Int) => wp_X6_look_58 G (fun (x2 : Int) (x3 : Int) (x4 : Int) (S_r : gWS) (T_r : gWT) (U_r : gWU) (R_w : gRR) => rI x2 ∧ ((¬ x2 = 0 → Q x4 S_r T_r U_r R_w) ∧ (¬ (¬ x2 = 0) → Q x3 S_r T_r U_r R_w))) Q m w s.1 s.2 B.1 c S' T' U' R') B.1 (fun c s => 0 ≤ c ∧ (-6 ≤ s.1 ∧ s.1 < B.1 ∧ -6 ≤ s.2 ∧ s.2 ≤ 2000000) ∧ s = itI (lkF B H A) 0 c (-6, -6)) ?_ ?_ 0 (-6, -6) (by omega) ⟨by omega, ⟨by decide, by show (-6 : Int) < _; omega, by decide, by decide⟩, (itI_0 (by omega)).symm⟩
  · rintro m s ⟨_, _, e⟩
    show wp_X6_look_58 _ _ _ (m + 1) _ _ _ _ _ _ _ _ _
    unfold wp_X6_look_58
    refine ⟨⟨by omega, by omega⟩, ⟨by omega, by omega⟩, fun _ => ⟨hw, fun a => ?_, fun a => ?_⟩, fun q => absurd (Int.le_refl _) q⟩
    · rw [if_neg a] at h; rw [e]; exact h _ _ _ _
    · rw [if_pos (Decidable.of_not_not a)] at h; rw [e]; exact h _ _ _ _
  · rintro m c s hlt ⟨c0, sr, e⟩ ih
    have e2 : itI (lkF B H A) 0 (c + 1) (-6, -6) = lkF B H A c s := by rw [itI_s c0, ← e]
    have hm := most_r (c := c) hR.1
    show wp_X6_look_58 _ _ _ (m + 1) _ _ _ _ _ _ _ _ _
    unfold wp_X6_look_58
    refine ⟨⟨by omega, by omega⟩, ⟨by omega, by omega⟩, fun q => by omega, fun _ => s_hasSeen (by omega) hG ⟨by omega, by omega⟩ (fun y => ⟨fun _ => ih s ⟨by omega, sr, ?_⟩, fun q => absurd (by decide) q⟩) (fun y => ⟨fun q => absurd rfl q, fun _ => s_mostLeft hR (by omega) ⟨c0, by omega⟩ ⟨⟨by omega, by omega⟩, fun z => ih (c, mostF B H A c) ⟨by omega, ⟨by show -6 ≤ c; omega, hlt, by show -6 ≤ mostF B H A c; omega, by show mostF B H A c ≤ 2000000; omega⟩, ?_⟩, fun z => ⟨⟨by omega, by omega⟩, ⟨by omega, by omega⟩, fun z2 => ih s ⟨by omega, sr, ?_⟩, fun z2 => ih (c, mostF B H A c) ⟨by omega, ⟨by show -6 ≤ c; omega, hlt, by show -6 ≤ mostF B H A c; omega, by show mostF B H A c ≤ 2000000; omega⟩, ?_⟩⟩⟩⟩)⟩
    · rw [e2]; unfold lkF; rw [if_pos y]
    · rw [e2]; unfold lkF; rw [if_neg (by rw [y]; decide), if_pos (Or.inl z)]
    · rw [e2]; unfold lkF; rw [if_neg (by rw [y]; decide), if_neg (by omega)]
    · rw [e2]; unfold lkF; rw [if_neg (by rw [y]; decide), if_pos (Or.inr (by omega))]
