/-! sums -/
def sm (f : Int → Int) (lo hi : Int) : Int := itI (fun k a => a + f k) lo hi 0
theorem sm_acc (f : Int → Int) (lo hi s : Int) : itI (fun k a => a + f k) lo hi s = s + sm f lo hi := by
  rcases Int.le_total lo hi with h | h
  · refine itI_rel (f := fun k a => a + f k) (g := fun k a => a + f k) (s := s) (t := 0) (fun _ a b => a = s + b) h (by omega) (fun i a b h1 h2 e => ?_)
    omega
  · unfold sm; rw [itI_0 h, itI_0 h]; omega
theorem sm_0 {f : Int → Int} {lo hi : Int} (h : hi ≤ lo) : sm f lo hi = 0 := itI_0 h
theorem sm_s {f : Int → Int} {lo i : Int} (h : lo ≤ i) : sm f lo (i + 1) = sm f lo i + f i := itI_s h
theorem sm_split {f : Int → Int} {lo mid hi : Int} (h1 : lo ≤ mid) (h2 : mid ≤ hi) : sm f lo hi = sm f lo mid + sm f mid hi := by
  show itI _ lo hi 0 = _
  rw [itI_split h1 h2, sm_acc]; rfl
theorem sm_1 {f : Int → Int} {i : Int} : sm f i (i + 1) = f i := by rw [sm_s (Int.le_refl _), sm_0 (Int.le_refl _)]; omega
theorem sm_congr {f g : Int → Int} {lo hi : Int} (h : ∀ k, lo ≤ k → k < hi → f k = g k) : sm f lo hi = sm g lo hi := itI_congr (fun k a h1 h2 => by rw [h k h1 h2])
theorem sm_le {f g : Int → Int} {lo hi : Int} (h : ∀ k, lo ≤ k → k < hi → f k ≤ g k) : sm f lo hi ≤ sm g lo hi := by
  rcases Int.le_total lo hi with h0 | h0
  · exact itI_rel (fun _ a b => a ≤ b) h0 (Int.le_refl 0) (fun i a b h1 h2 e => by have := h i h1 h2; omega)
  · rw [sm_0 h0, sm_0 h0]; omega
theorem sm_const {c lo hi : Int} (h : lo ≤ hi) : sm (fun _ => c) lo hi = c * (hi - lo) := by
  refine itI_ind (P := fun k a => a = c * (k - lo)) h (by rw [show lo - lo = 0 by omega]; omega) (fun i a h1 h2 e => ?_)
  dsimp only
  rw [e, show i + 1 - lo = (i - lo) + 1 by omega, Int.mul_add]; omega
theorem sm_upd {f f' : Int → Int} {lo hi g : Int} (h1 : lo ≤ g) (h2 : g < hi) (h : ∀ k, lo ≤ k → k < hi → k ≠ g → f' k = f k) : sm f' lo hi = sm f lo hi + (f' g - f g) := by
  rw [sm_split (mid := g) h1 (by omega), sm_split (f := f) (mid := g) h1 (by omega), sm_split (mid := g + 1) (hi := hi) (lo := g) (by omega) (by omega), sm_split (f := f) (mid := g + 1) (hi := hi) (lo := g) (by omega) (by omega), sm_1, sm_1]
  rw [sm_congr (f := f') (g := f) (lo := lo) (hi := g) (fun k a b => h k a (by omega) (by omega)), sm_congr (f := f') (g := f) (lo := g + 1) (hi := hi) (fun k a b => h k (by omega) b (by omega))]
  omega
/-! loads -/
def ldC (B : gMB) (N : gMN) (r sh : Int) : Int → gML → gML := fun c L => if 0 ≤ who B N (r - 1) c then aset L (who B N (r - 1) c) (L (who B N (r - 1) c) + sh) else L
def ldS (B : gMB) (N : gMN) (g : Int) (L : gML) : Int := (L g + 60466176 * B.2.2.2.1 g).tdiv (hld B N g)
def ldG (B : gMB) (N : gMN) (r : Int) : Int → gML → gML := fun g L => if N.1 g = r ∧ 0 < hld B N g then itI (ldC B N r (ldS B N g L)) (N.2 g) (N.2 g + B.2.2.1 g) L else L
def ldW (B : gMB) (N : gMN) : Int → gML → gML := fun k L => itI (ldG B N (9 - k)) 0 10 L
def ldA (B : gMB) (N : gMN) : gML := itI (ldW B N) 0 9 (fun _ => 0)
def prF (N : gMN) (r i : Int) : Int → Int := fun h => if r < N.1 h ∨ (N.1 h = r ∧ h < i) then 1 else 0
def pr (N : gMN) (r i : Int) : Int := sm (prF N r i) 0 10
theorem pr_rng (N : gMN) (r i : Int) : 0 ≤ pr N r i ∧ pr N r i ≤ 10 := by
  constructor
  · have := sm_le (f := fun _ => 0) (g := prF N r i) (lo := 0) (hi := 10) (fun k _ _ => by unfold prF; split <;> omega)
    rw [sm_const (by omega)] at this
    unfold pr; omega
  · have := sm_le (f := prF N r i) (g := fun _ => 1) (lo := 0) (hi := 10) (fun k _ _ => by unfold prF; split <;> omega)
    rw [sm_const (by omega)] at this
    unfold pr; omega
theorem pr_s {N : gMN} {r i : Int} (h0 : 0 ≤ i) (h1 : i < 10) : pr N r (i + 1) = pr N r i + (if N.1 i = r then 1 else 0) := by
  unfold pr
  rw [sm_upd (f := prF N r i) (f' := prF N r (i + 1)) (g := i) h0 h1 (fun k h2 h3 h4 => ?_)]
  · unfold prF
    by_cases e : N.1 i = r
    · rw [if_pos (Or.inr ⟨e, by omega⟩), if_neg (by omega), if_pos e]; omega
    · by_cases e2 : r < N.1 i
      · rw [if_pos (Or.inl e2), if_pos (Or.inl e2), if_neg e]; omega
      · rw [if_neg (by omega), if_neg (by omega), if_neg e]; omega
  · unfold prF
    by_cases e : r < N.1 k ∨ (N.1 k = r ∧ k < i)
    · rw [if_pos e, if_pos (by omega)]
    · rw [if_neg e, if_neg (by omega)]
theorem pr_d {N : gMN} {r : Int} : pr N (r - 1) 0 = pr N r 10 := by
  unfold pr
  refine sm_congr (fun k h1 h2 => ?_)
  unfold prF
  by_cases e : r - 1 < N.1 k
  · rw [if_pos (Or.inl e), if_pos (by omega)]
  · rw [if_neg (by omega), if_neg (by omega)]
/-- a bound: p stones are through -/
def LB (L : gML) (p : Int) : Prop := Z10 L ∧ ∀ g, 0 ≤ g → g < 10 → 0 ≤ L g ∧ L g + 1209323520 ≤ 4 ^ p.toNat * 1209323520
theorem p4_pos (n : Nat) : (1 : Int) ≤ 4 ^ n := by
  induction n with
  | zero => decide
  | succ n ih => rw [Int.pow_succ]; omega
theorem p4_le {n : Nat} (h : n ≤ 10) : (4 : Int) ^ n ≤ 1048576 := by
  have h2 : 4 ^ n ≤ 4 ^ 10 := Nat.pow_le_pow_right (by omega) h
  have h3 : ((4 ^ n : Nat) : Int) = (4 : Int) ^ n := by rw [Int.natCast_pow]; rfl
  rw [← h3]
  have : (4 : Nat) ^ 10 = 1048576 := by decide
  omega
theorem LB_top {L : gML} {N : gMN} {r i g : Int} (h : LB L (pr N r i)) (h0 : 0 ≤ g) (h1 : g < 10) : 0 ≤ L g ∧ L g ≤ 1268056554319872000 := by
  obtain ⟨a, b⟩ := h.2 g h0 h1
  have hp := pr_rng N r i
  have := p4_le (n := (pr N r i).toNat) (by omega)
  constructor
  · exact a
  · have : (4 : Int) ^ (pr N r i).toNat * 1209323520 ≤ 1048576 * 1209323520 := Int.mul_le_mul_of_nonneg_right this (by omega)
    omega
theorem ldC_rng {B : gMB} {N : gMN} {r sh X : Int} {L : gML} {c0 : Int} (hz : Z10 L) (hL : ∀ g, 0 ≤ g → g < 10 → 0 ≤ L g ∧ L g ≤ X) (hs : 0 ≤ sh) (c : Int) (hc : c0 ≤ c) : Z10 (itI (ldC B N r sh) c0 c L) ∧ ∀ g, 0 ≤ g → g < 10 → 0 ≤ itI (ldC B N r sh) c0 c L g ∧ itI (ldC B N r sh) c0 c L g ≤ X + sh * (c - c0) := by
  refine itI_ind (P := fun k M => Z10 M ∧ ∀ g, 0 ≤ g → g < 10 → 0 ≤ M g ∧ M g ≤ X + sh * (k - c0)) hc ⟨hz, fun g h0 h1 => ?_⟩ (fun k M h1 h2 h3 => ?_)
  · have := hL g h0 h1
    rw [show c0 - c0 = 0 by omega]; omega
  · obtain ⟨h3, h4⟩ := h3
    have hw := @who_rng B N (r - 1) k
    have e : sh * (k + 1 - c0) = sh * (k - c0) + sh := by rw [show k + 1 - c0 = (k - c0) + 1 by omega, Int.mul_add]; omega
    unfold ldC
    split
    · refine ⟨Z10_set h3 (by omega), fun g h5 h6 => ?_⟩
      have := h4 g h5 h6
      by_cases eg : g = who B N (r - 1) k
      · have a := h4 (who B N (r - 1) k) (by omega) (by omega)
        rw [eg, aset_s, e]; omega
      · rw [aset_n eg, e]; omega
    · refine ⟨h3, fun g h5 h6 => ?_⟩
      have := h4 g h5 h6
      rw [e]; omega
theorem ldS_rng {B : gMB} {N : gMN} {g p : Int} {L : gML} (hB : BOk B) (hg : 0 ≤ g ∧ g < 10) (hL : LB L p) (hh : 0 < hld B N g) : 0 ≤ ldS B N g L ∧ ldS B N g L ≤ 4 ^ p.toNat * 1209323520 := by
  have hw := (hB.2.2 g hg.1 hg.2).2.1
  have hl := hL.2 g hg.1 hg.2
  have h1 : 0 ≤ L g + 60466176 * B.2.2.2.1 g := by omega
  unfold ldS
  rw [Int.tdiv_eq_ediv_of_nonneg h1]
  refine ⟨Int.ediv_nonneg h1 (by omega), ?_⟩
  have h2 : (L g + 60466176 * B.2.2.2.1 g) / hld B N g ≤ (L g + 60466176 * B.2.2.2.1 g) := Int.ediv_le_self _ h1
  omega
theorem ldG_rng {B : gMB} {N : gMN} {r i : Int} {L : gML} (hB : BOk B) (hi : 0 ≤ i ∧ i < 10) (hL : LB L (pr N r i)) : LB (ldG B N r i L) (pr N r (i + 1)) := by
  have hp := pr_rng N r i
  have hps := pr_s (N := N) (r := r) hi.1 hi.2
  unfold ldG
  split
  · rename_i h
    rw [if_pos h.1] at hps
    have hs := ldS_rng hB hi hL h.2
    have hw := (hB.2.2 i hi.1 hi.2).1
    have e4 : (4 : Int) ^ (pr N r (i + 1)).toNat = 4 ^ (pr N r i).toNat * 4 := by rw [hps, show (pr N r i + 1).toNat = (pr N r i).toNat + 1 by omega, Int.pow_succ]
    have hc := ldC_rng (B := B) (N := N) (r := r) (sh := ldS B N i L) (X := 4 ^ (pr N r i).toNat * 1209323520 - 1209323520) (L := L) (c0 := N.2 i) hL.1 (fun g h0 h1 => by have := hL.2 g h0 h1; omega) hs.1 (N.2 i + B.2.2.1 i) (by omega)
    refine ⟨hc.1, fun g h0 h1 => ?_⟩
    have h2 := hc.2 g h0 h1
    refine ⟨h2.1, ?_⟩
    rw [e4]
    have h3 : ldS B N i L * (N.2 i + B.2.2.1 i - N.2 i) ≤ ldS B N i L * 3 := Int.mul_le_mul_of_nonneg_left (by omega) hs.1
    generalize (4 : Int) ^ (pr N r i).toNat = Y at *
    omega
  · refine ⟨hL.1, fun g h0 h1 => ?_⟩
    have h2 := hL.2 g h0 h1
    refine ⟨h2.1, ?_⟩
    by_cases e : N.1 i = r
    · rw [if_pos e] at hps
      rw [hps, show (pr N r i + 1).toNat = (pr N r i).toNat + 1 by omega, Int.pow_succ]
      have := p4_pos (pr N r i).toNat
      generalize (4 : Int) ^ (pr N r i).toNat = Y at *
      omega
    · rw [if_neg e] at hps
      rw [hps, show pr N r i + 0 = pr N r i by omega]; exact h2.2
theorem ldR_rng {B : gMB} {N : gMN} {r : Int} {L : gML} (hB : BOk B) (hL : LB L (pr N r 0)) (i : Int) (h0 : 0 ≤ i) (h1 : i ≤ 10) : LB (itI (ldG B N r) 0 i L) (pr N r i) :=
  itI_ind (P := fun k M => LB M (pr N r k)) h0 hL (fun k M h2 h3 h4 => ldG_rng hB ⟨h2, by omega⟩ h4)
theorem LB_0 {N : gMN} {r i : Int} : LB (fun _ => 0) (pr N r i) := ⟨fun _ _ => rfl, fun g _ _ => ⟨Int.le_refl 0, by have := p4_pos (pr N r i).toNat; show (0 : Int) + 1209323520 ≤ _; omega⟩⟩
theorem ldW_rng {B : gMB} {N : gMN} (hB : BOk B) (k : Int) (h0 : 0 ≤ k) : LB (itI (ldW B N) 0 k (fun _ => 0)) (pr N (9 - k) 0) := by
  refine itI_ind (P := fun k M => LB M (pr N (9 - k) 0)) h0 LB_0 (fun k M h2 h3 h4 => ?_)
  rw [show 9 - (k + 1) = 9 - k - 1 by omega, pr_d]
  exact ldR_rng hB h4 10 (by omega) (by omega)
theorem ldA_z {B : gMB} {N : gMN} (hB : BOk B) : Z10 (ldA B N) := (ldW_rng hB 9 (by omega)).1
theorem ldA_r {B : gMB} {N : gMN} (hB : BOk B) {g : Int} (h0 : 0 ≤ g) (h1 : g < 10) : 0 ≤ ldA B N g ∧ ldA B N g ≤ 1268056554319872000 := LB_top (ldW_rng (N := N) hB 9 (by omega)) h0 h1
set_option maxHeartbeats 1000000 in
theorem s_X7_layLoads {B : gMB} {N : gMN} {L : gML} {Q : gML → Prop} (hB : BOk B) (hR : NR B N) (hL : Z10 L) (h : Q (ldA B N)) : wp_X7_layLoads B N L Q := by
  unfold wp_X7_layLoads
  refine lp_inv (fun m i (M : gML) => wp_X7_layLoads_2 _ Q m i M) 10 (fun i M => 0 ≤ i ∧ Z10 M ∧ ∀ g, 0 ≤ g → g < i → M g = 0) ?_ ?_ 0 L (by omega) ⟨by omega, hL, fun g _ _ => by omega⟩
  · rintro m M ⟨hi, hz, he⟩
    have eM : M = fun _ => 0 := Z10_ext hz (fun _ _ => rfl) he
    subst eM
    show wp_X7_layLoads_2 _ Q (m + 1) 10 _
    unfold wp_X7_layLoads_2
    refine ⟨by decide, fun _ => ?_, fun q => absurd (Int.le_refl 10) q⟩
    refine lp_down (fun m r (M : gML) => wp_X7_layLoads_24 B N (fun L => Q L) Q m r M) 0 (fun r M => 0 ≤ r ∧ r ≤ 9 ∧ M = itI (ldW B N) 0 (9 - r) (fun _ => 0)) ?_ ?_ 9 _ (by omega) ⟨by omega, by omega, (itI_0 (by omega)).symm⟩
    · rintro m M ⟨h0, h9, rfl⟩
      show wp_X7_layLoads_24 _ _ _ _ (m + 1) _ _
      unfold wp_X7_layLoads_24
      exact ⟨by decide, fun _ => h, fun q => absurd (Int.le_refl 0) q⟩
    · rintro m r M hlt ⟨h0, h9, rfl⟩ ih
      show wp_X7_layLoads_24 _ _ _ _ (m + 1) _ _
      unfold wp_X7_layLoads_24
      refine ⟨⟨by omega, by omega⟩, fun q => by omega, fun _ => ?_⟩
      have hb0 := ldW_rng (B := B) (N := N) hB (9 - r) (by omega)
      rw [show 9 - (9 - r) = r by omega] at hb0
      refine lp_inv (fun m g (M : gML) => wp_X7_layLoads_30 B N _ Q m r g M) 10 (fun g M => 0 ≤ g ∧ M = itI (ldG B N r) 0 g (itI (ldW B N) 0 (9 - r) (fun _ => 0))) ?_ ?_ 0 _ (by omega) ⟨by omega, (itI_0 (by omega)).symm⟩
      · rintro m2 M ⟨h3, rfl⟩
        show wp_X7_layLoads_30 _ _ _ _ (m2 + 1) _ _ _
        unfold wp_X7_layLoads_30
        refine ⟨by decide, fun _ => ?_, fun q => absurd (Int.le_refl 10) q⟩
        refine ih _ ⟨by omega, by omega, ?_⟩
        rw [show 9 - (r - 1) = (9 - r) + 1 by omega, itI_s (by omega)]
        show _ = ldW B N (9 - r) _
        unfold ldW
        rw [show 9 - (9 - r) = r by omega]
      · rintro m2 g M hg ⟨h3, rfl⟩ ih2
        obtain ⟨r1, r2, r3⟩ := hR g h3 hg
        have hw := (hB.2.2 g h3 hg).2.1
        have hb := ldR_rng hB hb0 g h3 (by omega)
        have ht := LB_top hb h3 hg
        have hh := hld_r (B := B) (N := N) (g := g) r3.1
        show wp_X7_layLoads_30 _ _ _ _ (m2 + 1) _ _ _
        unfold wp_X7_layLoads_30
        refine ⟨⟨by omega, by omega⟩, fun q => by omega, fun _ => ⟨⟨h3, hg⟩, ⟨by omega, by omega⟩, ⟨by omega, by omega⟩, fun a => ?_, fun a => ?_⟩⟩
        · exact ih2 _ ⟨by omega, by rw [itI_s h3]; exact (if_neg (fun q => a q.1)).symm⟩
        · have a := Decidable.of_not_not a
          refine s_X7_held hR ⟨h3, hg⟩ ⟨⟨by omega, by omega⟩, fun b => ?_, fun b => ⟨⟨by omega, by omega⟩, s_X7_held hR ⟨h3, hg⟩ ⟨⟨by omega, by omega⟩, by omega, ⟨by omega, by omega⟩, ⟨by omega, by omega⟩, ?_⟩⟩⟩
          · exact ih2 _ ⟨by omega, by rw [itI_s h3]; exact (if_neg (fun q => by have := q.2; omega)).symm⟩
          · generalize hM0 : itI (ldG B N r) 0 g (itI (ldW B N) 0 (9 - r) (fun _ => 0)) = M0 at *
            have hs := ldS_rng (N := N) hB ⟨h3, hg⟩ hb (by omega)
            refine lp_inv (fun m c (M : gML) => wp_X7_layLoads_88 B N _ Q m r g (ldS B N g M0) c M) (N.2 g + B.2.2.1 g) (fun c M => N.2 g ≤ c ∧ M = itI (ldC B N r (ldS B N g M0)) (N.2 g) c M0) ?_ ?_ (N.2 g) M0 (by omega) ⟨by omega, (itI_0 (by omega)).symm⟩
            · rintro m3 M ⟨h4, rfl⟩
              show wp_X7_layLoads_88 _ _ _ _ (m3 + 1) _ _ _ _ _
              unfold wp_X7_layLoads_88
              refine ⟨⟨h3, hg⟩, ⟨by omega, by omega⟩, ⟨by omega, by omega⟩, fun _ => ?_, fun q => absurd (Int.le_refl _) q⟩
              refine ih2 _ ⟨by omega, ?_⟩
              rw [itI_s h3, hM0]
              exact (if_pos ⟨a, by omega⟩).symm
            · rintro m3 c M hc ⟨h4, rfl⟩ ih3
              show wp_X7_layLoads_88 _ _ _ _ (m3 + 1) _ _ _ _ _
              unfold wp_X7_layLoads_88
              refine ⟨⟨h3, hg⟩, ⟨by omega, by omega⟩, ⟨by omega, by omega⟩, fun q => by omega, fun _ => ?_⟩
              refine s_X7_whose hR ⟨by omega, by omega⟩ ⟨by omega, by omega⟩ ?_
              have hw := @who_rng B N (r - 1) c
              refine ⟨⟨by omega, by omega⟩, fun d => ?_, fun d => ⟨by omega, ?_⟩⟩
              · exact ih3 _ ⟨by omega, by rw [itI_s h4]; exact (if_neg (by omega)).symm⟩
              · exact ih3 _ ⟨by omega, by rw [itI_s h4]; exact (if_pos (by omega)).symm⟩
  · rintro m i M hlt ⟨hi, hz, he⟩ ih
    show wp_X7_layLoads_2 _ Q (m + 1) i _
    unfold wp_X7_layLoads_2
    refine ⟨⟨by omega, by omega⟩, fun q => by omega, fun _ => ⟨⟨hi, hlt⟩, ?_⟩⟩
    refine ih _ ⟨by omega, Z10_set hz ⟨hi, hlt⟩, fun g h1 h2 => ?_⟩
    by_cases e : g = i
    · subst e; exact aset_s
    · exact (aset_n e).trans (he g h1 (by omega))
