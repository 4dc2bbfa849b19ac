/-! who, look: the class finds its rows -/
theorem RRel_0 {B : gMB} {H : gMG} {f : Int → Int} (hf : ∀ j, 0 ≤ j → j < 99 → f j = 0) : RRel B H (fun _ => 0) (0, 0, 0, f) := by
  refine ⟨⟨Int.le_refl 0, fun _ => ⟨Int.le_refl 0, Int.le_refl 0⟩, fun _ _ => ⟨Int.le_refl 0, Int.le_refl 0⟩⟩, rfl, ⟨S10_0, fun g _ _ => sb_0 g⟩, ⟨S10_0, fun q => absurd rfl q, fun _ => rfl⟩, fun c h c0 c1 h0 h1 => hf _ (by omega) (by omega)⟩
theorem s_findRows {B : gMB} {N : gMN} {S Sr : gWS} {T Tr : gWT} {Ur : gWU} {G : gGG} {H : gMG} {R : gRR} {p : Nat} {Q : gWS → gWT → gWU → gRR → Prop} (hI : Inv B N) (hS : SR B S) (hT : TR B N T) (hG : GR B.1 G H) (p2 : p ≤ 2) (h : ∀ S' T' U' R', RRel B H (fun φ => WS B p N 0 φ) R' → Q S' T' U' R') : wp_X6_findRows S T Sr Tr Ur G R p Q := by
  have hp3 := p100_3 (show p ≤ 3 by omega)
  unfold wp_X6_findRows
  refine s_become hS hT (fun S2 T2 hS2 hT2 => ?_)
  unfold wp_X3_start
  refine s_fill ⟨by omega, by omega⟩ (fun f1 e1 _ => ?_)
  rw [show (4 : Nat) = p + 1 + (3 - p) by omega]
  refine s_grow hS2 hG p hI hT2 S10_0 p2 (A := fun _ => 0) (by omega) (RRel_0 e1) (fun T' U' R' _ hR' => h _ _ _ _ ?_)
  rw [show (fun φ => WS B p N 0 φ) = fun φ => (0 : Int) + WS B p N 0 φ from funext fun φ => by omega]
  exact hR'
