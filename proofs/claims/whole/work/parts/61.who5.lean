/-! who, look: the class's walk -/
def wtF (B : gMB) (p : Nat) (N : gMN) (b : Int) (φ : Int → gMN → Int) (g c : Int) : Int := if (mput B N g c).1 = 0 then WS B p (mput B N g c).2 (ior b (ishl 1 g)) φ else 0
def grA (B : gMB) (p : Nat) (N : gMN) (b : Int) (A : RA) (g c : Int) : RA := fun φ => A φ + sm (fun g => sm (wtF B p N b φ g) 0 10) 0 g + sm (wtF B p N b φ g) 0 c
theorem WS_r {B : gMB} {φ : Int → gMN → Int} (hφ : ∀ b M, 0 ≤ φ b M ∧ φ b M ≤ 1) {p : Nat} {N : gMN} {b : Int} : 0 ≤ WS B p N b φ ∧ WS B p N b φ ≤ p100 p := by
  have hp := p100_pos p
  rw [WS_RS]
  unfold RS
  have h1 := sm_le (f := fun _ => (0 : Int)) (g := fun x => if shq B p N x = true then φ (bhq p b x) (shf B p N x) else 0) (lo := 0) (hi := p100 p) (fun k _ _ => by
    have := hφ (bhq p b k) (shf B p N k)
    split <;> omega)
  have h2 := sm_le (g := fun _ => (1 : Int)) (f := fun x => if shq B p N x = true then φ (bhq p b x) (shf B p N x) else 0) (lo := 0) (hi := p100 p) (fun k _ _ => by
    have := hφ (bhq p b k) (shf B p N k)
    split <;> omega)
  rw [sm_const (by omega)] at h1 h2
  omega
theorem phC_r {B : gMB} {H : gMG} (b : Int) (M : gMN) : 0 ≤ phC B H b M ∧ phC B H b M ≤ 1 := by unfold phC; split <;> omega
theorem wt_r {B : gMB} {H : gMG} {p : Nat} {N : gMN} {b g c : Int} : 0 ≤ wtF B p N b (phC B H) g c ∧ wtF B p N b (phC B H) g c ≤ p100 p := by
  have hp := p100_pos p
  have := WS_r (B := B) (φ := phC B H) phC_r (p := p) (N := (mput B N g c).2) (b := ior b (ishl 1 g))
  unfold wtF; split <;> omega
theorem wt_sm {B : gMB} {H : gMG} {p : Nat} {N : gMN} {b g : Int} (c : Int) (h0 : 0 ≤ c) (h1 : c ≤ 10) : 0 ≤ sm (wtF B p N b (phC B H) g) 0 c ∧ sm (wtF B p N b (phC B H) g) 0 c ≤ 10 * p100 p := by
  have hp := p100_pos p
  have a := sm_le (f := fun _ => (0 : Int)) (g := wtF B p N b (phC B H) g) (lo := 0) (hi := c) (fun k _ _ => wt_r.1)
  have d := sm_le (g := fun _ => p100 p) (f := wtF B p N b (phC B H) g) (lo := 0) (hi := c) (fun k _ _ => wt_r.2)
  rw [sm_const h0] at a d
  have : p100 p * (c - 0) ≤ p100 p * 10 := Int.mul_le_mul_of_nonneg_left (by omega) (by omega)
  omega
theorem grA_r {B : gMB} {H : gMG} {p : Nat} {N : gMN} {b g c : Int} {A : RA} (g0 : 0 ≤ g) (g1 : g < 10) (c0 : 0 ≤ c) (c1 : c ≤ 10) : grA B p N b A g c (phC B H) ≤ A (phC B H) + 100 * p100 p := by
  have hp := p100_pos p
  have a := wt_sm (B := B) (H := H) (p := p) (N := N) (b := b) (g := g) c c0 c1
  have d := sm_le (g := fun _ => 10 * p100 p) (f := fun g => sm (wtF B p N b (phC B H) g) 0 10) (lo := 0) (hi := g) (fun k _ _ => (wt_sm 10 (by omega) (by omega)).2)
  rw [sm_const g0] at d
  have : 10 * p100 p * (g - 0) ≤ 10 * p100 p * 9 := Int.mul_le_mul_of_nonneg_left (by omega) (by omega)
  unfold grA
  omega
