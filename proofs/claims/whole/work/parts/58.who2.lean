/-! who, look: all SIGHTS are so; a row is added (class) -/
def soB (B : gMB) (H : gMG) (M : gMN) : Bool := itI (fun k b => b && decide (hgt B M (H.2 (2 * k)) = H.2 (2 * k + 1))) 0 H.1 true
theorem so_iff {B : gMB} {H : gMG} {M : gMN} (h0 : 0 ≤ H.1) : soB B H M = true ↔ ∀ k, 0 ≤ k → k < H.1 → hgt B M (H.2 (2 * k)) = H.2 (2 * k + 1) := by
  refine itI_ind (f := fun k b => b && decide (hgt B M (H.2 (2 * k)) = H.2 (2 * k + 1))) (s := true) (P := fun i (b : Bool) => b = true ↔ ∀ k, 0 ≤ k → k < i → hgt B M (H.2 (2 * k)) = H.2 (2 * k + 1)) h0 ⟨fun _ k _ _ => by omega, fun _ => rfl⟩ (fun i b i0 i1 h => ?_)
  rw [Bool.and_eq_true, decide_eq_true_eq, h]
  constructor
  · rintro ⟨x, y⟩ k k0 k1
    by_cases e : k = i
    · subst e; exact y
    · exact x k k0 (by omega)
  · intro x
    exact ⟨fun k k0 k1 => x k k0 (by omega), x i i0 (by omega)⟩
theorem s_areSo {B : gMB} {N : gMN} {T : gWT} {G : gGG} {H : gMG} {Q : Int → Prop} (hB : BOk B) (hN : NOk B N) (hT : TR B N T) (hG : GR B.1 G H) (h1 : soB B H N = true → Q 1) (h0 : soB B H N = false → Q 0) : wp_X4_areSo G T Q := by
  have hn := hB.1
  obtain ⟨e1, e2, e3⟩ := hG
  unfold wp_X4_areSo
  rw [e1]
  refine lp_inv (fun m i (_ : Unit) => wp_X4_areSo_13 G T (Q 0) (Q 1) Q m H.1 i) H.1 (fun i _ => 0 ≤ i ∧ ∀ k, 0 ≤ k → k < i → hgt B N (H.2 (2 * k)) = H.2 (2 * k + 1)) ?_ ?_ 0 () (by omega) ⟨by omega, fun k _ _ => by omega⟩
  · rintro m _ ⟨i0, e⟩
    show wp_X4_areSo_13 _ _ _ _ _ (m + 1) _ _
    unfold wp_X4_areSo_13
    exact ⟨⟨by omega, by omega⟩, ⟨by omega, by omega⟩, fun _ => h1 ((so_iff i0).mpr e), fun q => absurd (Int.le_refl _) q⟩
  · rintro m i _ hlt ⟨i0, e⟩ ih
    obtain ⟨f1, f2, f3, f4⟩ := e3 i i0 hlt
    show wp_X4_areSo_13 _ _ _ _ _ (m + 1) _ _
    unfold wp_X4_areSo_13
    have hh := hgt_r (B := B) (N := N) (c := H.2 (2 * i)) (hN.nr hB)
    refine ⟨⟨by omega, by omega⟩, ⟨by omega, by omega⟩, fun q => by omega, fun _ => s_at ⟨i0, by omega⟩ (by decide) ?_⟩
    rw [f1]
    refine s_at ⟨by omega, by omega⟩ (by decide) (s_at ⟨i0, by omega⟩ (by decide) ?_)
    rw [f2, hT.2.2.2 (H.2 (2 * i)) f3.1 (by omega)]
    refine ⟨⟨by omega, by omega⟩, ⟨by omega, by omega⟩, fun z => ih () ⟨by omega, fun k k0 k1 => ?_⟩, fun z => h0 ?_⟩
    · by_cases q : k = i
      · subst q; exact z
      · exact e k k0 (by omega)
    · cases hs : soB B H N
      · rfl
      · exact absurd ((so_iff (by omega)).mp hs i i0 hlt) z
