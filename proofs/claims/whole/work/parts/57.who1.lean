/-! who, look: sums over rows -/
theorem sm_zero {lo hi : Int} : sm (fun _ => 0) lo hi = 0 := itI_id (fun _ _ _ => by dsimp only; omega)
theorem sm_swap {f : Int → Int → Int} {a b c d : Int} : sm (fun i => sm (fun j => f i j) c d) a b = sm (fun j => sm (fun i => f i j) a b) c d := by
  rcases Int.le_total a b with h | h
  · have := itI_ind (f := fun i x => x + sm (fun j => f i j) c d) (s := 0) (lo := a) (hi := b) (P := fun k x => x = sm (fun j => sm (fun i => f i j) a k) c d) h (by
      rw [sm_congr (g := fun _ => 0) (fun j _ _ => sm_0 (Int.le_refl _)), sm_zero]) (fun i x i0 _ e => by
      rw [e, ← sm_add]
      exact sm_congr (fun j _ _ => (sm_s (f := fun i => f i j) i0).symm))
    exact this
  · rw [sm_0 h, sm_congr (g := fun _ => 0) (fun j _ _ => sm_0 h), sm_zero]
theorem sm_block {f : Int → Int} {W : Int} (hW : 0 ≤ W) (n : Int) (hn : 0 ≤ n) : sm f 0 (n * W) = sm (fun k => sm (fun i => f (k * W + i)) 0 W) 0 n := by
  unfold sm
  rw [itI_block hW n hn]
  refine itI_congr (fun k a _ _ => ?_)
  exact sm_acc (fun i => f (k * W + i)) 0 W a
/-- the class's walk -/
def WS (B : gMB) : Nat → gMN → Int → (Int → gMN → Int) → Int
  | 0, N, b, φ => φ b N
  | p + 1, N, b, φ => sm (fun g => sm (fun c => if (mput B N g c).1 = 0 then WS B p (mput B N g c).2 (ior b (ishl 1 g)) φ else 0) 0 10) 0 10
/-- bits of a number's guests -/
def bhq : Nat → Int → Int → Int
  | 0, b, _ => b
  | p + 1, b, x => bhq p (ior b (ishl 1 (x % 10))) (x / 100)
def RS (B : gMB) (p : Nat) (N : gMN) (b : Int) (φ : Int → gMN → Int) : Int := sm (fun x => if shq B p N x = true then φ (bhq p b x) (shf B p N x) else 0) 0 (p100 p)
theorem WS_RS {B : gMB} {φ : Int → gMN → Int} {p : Nat} : ∀ {N : gMN} {b : Int}, WS B p N b φ = RS B p N b φ := by
  induction p with
  | zero =>
    intro N b
    unfold RS
    rw [show p100 0 = 0 + 1 from rfl, sm_1]
    exact (if_pos rfl).symm
  | succ p ih =>
    intro N b
    have hp := p100_pos p
    unfold RS
    rw [p100_s, Int.mul_comm, sm_block (W := 100) (by omega) (p100 p) (by omega), sm_swap, show (100 : Int) = 10 * 10 from rfl, sm_block (W := 10) (by omega) 10 (by omega), sm_swap]
    show sm _ 0 10 = _
    refine sm_congr (fun g g0 g1 => sm_congr (fun c c0 c1 => ?_))
    have e1 : ∀ x, (x * (10 * 10) + (c * 10 + g)) % 10 = g := fun x => by omega
    have e2 : ∀ x, (x * (10 * 10) + (c * 10 + g)) / 10 % 10 = c := fun x => by omega
    have e3 : ∀ x, (x * (10 * 10) + (c * 10 + g)) / 100 = x := fun x => by omega
    by_cases q : (mput B N g c).1 = 0
    · rw [if_pos q, ih]
      unfold RS
      refine sm_congr (fun x _ _ => ?_)
      have a1 : shq B (p + 1) N (x * (10 * 10) + (c * 10 + g)) = shq B p (mput B N g c).2 x := by
        show (decide _ && _) = _
        rw [e1, e2, e3, decide_eq_true q, Bool.true_and]
      have a2 : shf B (p + 1) N (x * (10 * 10) + (c * 10 + g)) = shf B p (mput B N g c).2 x := by
        show shf B p _ _ = _
        rw [e1, e2, e3]
      have a3 : bhq (p + 1) b (x * (10 * 10) + (c * 10 + g)) = bhq p (ior b (ishl 1 g)) x := by
        show bhq p _ _ = _
        rw [e1, e3]
      rw [a1, a2, a3]
    · rw [if_neg q]
      rw [sm_congr (g := fun _ => 0) (fun x _ _ => if_neg (fun w => by
        have w : (decide _ && _) = true := w
        rw [e1, e2, e3, decide_eq_false q, Bool.false_and] at w
        exact absurd w (by decide))), sm_zero]
