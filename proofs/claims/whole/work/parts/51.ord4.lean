/-! orders: the reference's call -/
theorem p10_dvd {a b : Nat} (h : a ≤ b) : p10 a ∣ p10 b := ⟨p10 (b - a), by unfold p10; rw [← Int.pow_add]; congr 1; omega⟩
theorem pth_lo {j : Nat} : ∀ {i k : Int} {f : Int → Int} {c : Int}, k < i → pth j i f c k = f k := by
  induction j with
  | zero => intro i k f c _; rfl
  | succ j ih => intro i k f c h
                 show pth j (i + 1) (aset f i _) _ k = _
                 rw [ih (by omega), aset_n (by omega)]
theorem pth_dg {j : Nat} : ∀ {i k : Int} {f : Int → Int} {c : Int} {t : Nat}, 0 ≤ c → c < p10 j → 0 ≤ k → k + t + 1 = j → pth j i f c (i + k) = (c % p10 (t + 1)) / p10 t := by
  induction j with
  | zero => intro i k f c t _ _ _ _; omega
  | succ j ih =>
    intro i k f c t c0 c1 k0 e
    obtain ⟨d1, d2⟩ := dgt c0 c1
    show pth j (i + 1) (aset f i (c / p10 j)) (c % p10 j) (i + k) = _
    by_cases z : k = 0
    · have et : t = j := by omega
      subst et; subst z
      rw [Int.add_zero, pth_lo (by omega), aset_s, Int.emod_eq_of_lt c0 c1]
    · have := ih (i := i + 1) (k := k - 1) (f := aset f i (c / p10 j)) (c := c % p10 j) (t := t) d2.1 d2.2 (by omega) (by omega)
      rw [show i + 1 + (k - 1) = i + k by omega] at this
      rw [this, Int.emod_emod_of_dvd _ (p10_dvd (by omega))]
theorem dig_is {c : Int} {t : Nat} (c0 : 0 ≤ c) : (c.tdiv (p10 t)).tmod 10 = (c % p10 (t + 1)) / p10 t := by
  have hp := p10_pos t
  have e := Int.emod_add_mul_ediv c (p10 (t + 1))
  have r0 := Int.emod_nonneg c (show p10 (t + 1) ≠ 0 by have := p10_pos (t + 1); omega)
  have r1 := Int.emod_lt_of_pos c (p10_pos (t + 1))
  obtain ⟨d1, _⟩ := dgt r0 r1
  rw [Int.tdiv_eq_ediv_of_nonneg c0, Int.tmod_eq_emod_of_nonneg (Int.ediv_nonneg c0 (by omega))]
  generalize c % p10 (t + 1) = r at *
  generalize c / p10 (t + 1) = q at *
  rw [← e, p10_s, show 10 * p10 t * q = (10 * q) * p10 t by ac_rfl, Int.add_mul_ediv_right _ _ (by omega)]
  omega
theorem s_X7_columnTold {D : gMD} {n g : Int} {Q : Int → Prop} (h0 : 0 ≤ D.1 ∧ D.1 ≤ 60) (ev : D.1 % 2 = 0) (hd : ∀ j, 0 ≤ j → j < D.1 → std n D j) (hg : rI g) (h : Q (col D g)) : wp_X7_columnTold D g Q := by
  unfold wp_X7_columnTold
  refine lp_inv (fun m i (x : Int) => wp_X7_columnTold_4 D (fun x2 => Q x2) Q m g x (2 * i)) (D.1 / 2) (fun i x => 0 ≤ i ∧ x = itI (clF D g) 0 i 0) ?_ ?_ 0 0 (by omega) ⟨by omega, (itI_0 (by omega)).symm⟩
  · rintro m x ⟨i0, e⟩
    show wp_X7_columnTold_4 D _ Q (m + 1) g x (2 * (D.1 / 2))
    unfold wp_X7_columnTold_4
    exact ⟨⟨by omega, by omega⟩, ⟨by omega, by omega⟩, fun _ => by rw [e]; exact h, fun q => by omega⟩
  · rintro m i x hlt ⟨i0, e⟩ ih
    have hs := (hd (2 * i) (by omega) (by omega)).1 (by omega)
    have next : itI (clF D g) 0 (i + 1) 0 = clF D g i x := by rw [itI_s i0, ← e]
    show wp_X7_columnTold_4 D _ Q (m + 1) g x (2 * i)
    unfold wp_X7_columnTold_4
    rw [show 2 * i + 2 = 2 * (i + 1) by omega]
    refine ⟨⟨by omega, by omega⟩, ⟨by omega, by omega⟩, fun q => by omega, fun _ => ⟨⟨by omega, by omega⟩, ⟨by omega, by omega⟩, hg, fun z => ih x ⟨by omega, ?_⟩, fun z => ⟨⟨by omega, by omega⟩, ih _ ⟨by omega, ?_⟩⟩⟩⟩
    · rw [next]; exact (if_neg z).symm
    · rw [next]; exact (if_pos (Decidable.of_not_not z)).symm
theorem s_X7_arePuts {B : gMB} {D : gMD} {Q : Int → Prop} (hB : BOk B) (h0 : 0 ≤ D.1 ∧ D.1 ≤ 60) (hd : ∀ j, 0 ≤ j → j < D.1 → 33 ≤ D.2 j ∧ D.2 j ≤ 126) (h1 : ff B.1 D = -6 → gok D (D.1 / 2) = true → Q 1) (h2 : ff B.1 D ≠ -6 ∨ gok D (D.1 / 2) = false → Q 0) : wp_X7_arePuts B D Q := by
  have hn := hB.1
  have hfr := ff_r (n := B.1) h0
  unfold wp_X7_arePuts
  refine s_X7_faultOf hB h0 hd ⟨⟨by omega, by omega⟩, fun z => ⟨1, ?_⟩, fun z => ?_⟩
  · unfold wp_X7_arePuts_17
    have q : (((0 : Int) = 0 ∨ (0 : Int) = 1) ∧ Q 0) := ⟨Or.inl rfl, h2 (Or.inl (by omega))⟩
    exact ⟨by decide, ⟨by omega, by omega⟩, fun _ => q, fun _ => ⟨by decide, fun _ => q, fun y => absurd rfl y⟩⟩
  · have hf : ff B.1 D = -6 := by omega
    obtain ⟨ev, hd⟩ := ff_none h0.1 hf
    have hso : SOk D (D.1 / 2) := fun k k0 k1 => by have := (hd (2 * k) (by omega) (by omega)).1 (by omega); omega
    refine lp_inv (fun m i (x : Int × Int) => wp_X7_arePuts_17 D _ Q m x.1 x.2 (2 * i)) (D.1 / 2) (fun i x => 0 ≤ i ∧ ((x.2 = 1 ∧ x.1 = nm D i ∧ GOk D i) ∨ (x.2 = 0 ∧ gok D (D.1 / 2) = false))) ?_ ?_ 0 (0, 1) (by omega) ⟨by omega, Or.inl ⟨rfl, (itI_0 (by omega)).symm, fun k _ _ => by omega⟩⟩
    · rintro m ⟨x, y⟩ ⟨i0, e⟩
      dsimp only at e
      show wp_X7_arePuts_17 D _ Q (m + 1) x y (2 * (D.1 / 2))
      unfold wp_X7_arePuts_17
      refine ⟨⟨by omega, by omega⟩, ⟨by omega, by omega⟩, fun _ => ?_, fun q => by omega⟩
      rcases e with ⟨e1, e2, e3⟩ | ⟨e1, e2⟩
      · rw [e1]; exact ⟨Or.inr rfl, h1 hf ((gok_iff _ i0).mpr e3)⟩
      · rw [e1]; exact ⟨Or.inl rfl, h2 (Or.inr e2)⟩
    · rintro m i ⟨x, y⟩ hlt ⟨i0, e⟩ ih
      dsimp only at e
      have hb := hso i i0 hlt
      have hc := (hd (2 * i + 1) (by omega) (by omega)).2 (by omega)
      show wp_X7_arePuts_17 D _ Q (m + 1) x y (2 * i)
      unfold wp_X7_arePuts_17
      rcases e with ⟨e1, e2, e3⟩ | ⟨e1, e2⟩
      · have hx : S10 x := by rw [e2]; exact nm_ok i i0 (fun k k0 k1 => hso k k0 (by omega))
        have bad : gbad D i = true → gok D (D.1 / 2) = false := fun q => by
          cases hk : gok D (D.1 / 2)
          · rfl
          · have := (gok_iff _ (by omega)).mp hk i i0 hlt
            rw [q] at this; exact absurd this (by decide)
        rw [e1]
        refine ⟨⟨by omega, by omega⟩, ⟨by omega, by omega⟩, fun q => by omega, fun _ => ⟨by decide, fun q => absurd q (by decide), fun _ => ⟨⟨by omega, by omega⟩, ⟨by omega, by omega⟩, fun w => ?_, fun w => ⟨⟨by omega, by omega⟩, s_X7_has hx hb (fun f => ⟨fun _ => ?_, fun q => absurd (by decide) q⟩) (fun f => ⟨fun q => absurd rfl q, fun _ => ?_⟩)⟩⟩⟩⟩
        · unfold wp_X7_arePuts_63
          rw [show 2 * i + 2 = 2 * (i + 1) by omega]
          exact ⟨⟨by omega, by omega⟩, ih (_, 0) ⟨by omega, Or.inr ⟨rfl, bad (by unfold gbad; rw [decide_eq_true w]; rfl)⟩⟩⟩
        · unfold wp_X7_arePuts_63
          rw [show 2 * i + 2 = 2 * (i + 1) by omega]
          exact ⟨⟨by omega, by omega⟩, ih (_, 0) ⟨by omega, Or.inr ⟨rfl, bad (by unfold gbad; rw [← e2, f]; exact Bool.or_true _)⟩⟩⟩
        · unfold wp_X7_arePuts_63
          rw [show 2 * i + 2 = 2 * (i + 1) by omega]
          refine ⟨⟨by omega, by omega⟩, ih (ior x (ishl 1 (D.2 (2 * i) - 65)), 1) ⟨by omega, Or.inl ⟨rfl, ?_, fun k k0 k1 => ?_⟩⟩⟩
          · rw [nm_s i0, e2]
          · by_cases ek : k = i
            · subst ek; unfold gbad; rw [decide_eq_false w, ← e2, f]; rfl
            · exact e3 k k0 (by omega)
      · rw [e1]
        exact ⟨⟨by omega, by omega⟩, ⟨by omega, by omega⟩, fun q => by omega, fun _ => ⟨by decide, fun _ => ⟨Or.inl rfl, h2 (Or.inr e2)⟩, fun q => absurd rfl q⟩⟩
def orK (Q : Int → gMN → gML → gMO → Prop) : Int → Int → Int → gMN → gML → gMO → Prop := fun (x1 : Int) (x2 : Int) (x4 : Int) (N_h : gMN) (L_h : gML) (O_h : gMO) => rI x1 ∧ ((¬ x1 = (-1) → rI x4 ∧ ((x4 ≤ 0 → Q (-6) N_h L_h O_h) ∧ (¬ (x4 ≤ 0) → wp_X7_in x1 0 (x2 - 1) (fun (r298 : Int) => ((r298 = 0 → Q (-6) N_h L_h O_h) ∧ (¬ (r298 = 0) → (0 ≤ x1 ∧ x1 < 6) ∧ Q (O_h.2 x1) N_h L_h O_h)))))) ∧ (¬ (¬ x1 = (-1)) → Q x4 N_h L_h O_h))
theorem s_X7_orders {B : gMB} {P : gMP} {N : gMN} {L : gML} {D : gMD} {O : gMO} {w : Int} {Q : Int → gMN → gML → gMO → Prop} (hI : Inv B P) (hN : Scr N L) (h0 : 0 ≤ D.1 ∧ D.1 ≤ 60) (hd : ∀ j, 0 ≤ j → j < D.1 → 33 ≤ D.2 j ∧ D.2 j ≤ 126) (rw_ : rI w) (h : ∀ N' L' O', Scr N' L' → Q (vOrders B P D w) N' L' O') : wp_X7_orders B P N L D O w Q := by
  have hB := hI.1
  have hn := hB.1
  unfold wp_X7_orders vOrders at *
  refine s_X7_arePuts hB h0 hd (fun hf gk => ⟨fun _ => ⟨⟨by omega, by omega⟩, fun h12 => ?_, fun h12 => ?_⟩, fun q => absurd (by decide) q⟩) (fun z => ⟨fun q => absurd rfl q, fun _ => ?_⟩)
  · obtain ⟨ev, hd⟩ := ff_none h0.1 hf
    rw [if_neg (fun q => q hf), if_neg (by rw [gk]; decide), if_neg (by omega)] at h
    have hso : SOk D (D.1 / 2) := fun k k0 k1 => by have := (hd (2 * k) (by omega) (by omega)).1 (by omega); omega
    have hnm := nm_ok (D.1 / 2) (by omega) hso
    have hg := (gok_iff _ (show 0 ≤ D.1 / 2 by omega)).mp gk
    obtain ⟨m, hm⟩ : ∃ m : Nat, D.1 / 2 = (m : Int) := ⟨(D.1 / 2).toNat, by omega⟩
    have hpm : popc (nm D (D.1 / 2)) = m := by rw [hm]; exact nm_popc m (by rw [← hm]; exact hso) (by rw [← hm]; exact hg)
    have em : (D.1 / 2).toNat = m := by omega
    have hp6 := p10_6 (j := m) (by omega)
    unfold vOrA at h
    rw [em] at h
    rw [Int.tdiv_eq_ediv_of_nonneg h0.1]
    refine lp_inv (fun n i (x : Int) => wp_X7_orders_34 _ Q n w (D.1 / 2) x i N L O) (D.1 / 2) (fun i x => 0 ≤ i ∧ x = p10 i.toNat) ?_ ?_ 0 1 (by omega) ⟨by omega, rfl⟩
    · rintro n x ⟨_, ex⟩
      show wp_X7_orders_34 _ Q (n + 1) w (D.1 / 2) x (D.1 / 2) N L O
      unfold wp_X7_orders_34
      refine ⟨⟨by omega, by omega⟩, ⟨by omega, by omega⟩, fun _ => ?_, fun q => absurd (Int.le_refl _) q⟩
      rw [em] at ex
      rw [ex]
      refine lp_inv (fun n i (y : Int) => wp_X7_orders_60 D _ Q n w (D.1 / 2) (p10 m) 0 y i N L O) (D.1 / 2) (fun i y => 0 ≤ i ∧ y = nm D i) ?_ ?_ 0 0 (by omega) ⟨by omega, (itI_0 (by omega)).symm⟩
      · rintro n y ⟨_, ey⟩
        show wp_X7_orders_60 D _ Q (n + 1) w (D.1 / 2) (p10 m) 0 y (D.1 / 2) N L O
        unfold wp_X7_orders_60
        refine ⟨⟨by omega, by omega⟩, ⟨by omega, by omega⟩, fun _ => ?_, fun q => absurd (Int.le_refl _) q⟩
        rw [ey]
        unfold orA at h
        have hA : ∀ c, 0 ≤ c → 0 ≤ (itI (orF B (col D) m P (nm D (D.1 / 2)) 0 (fun _ => 0)) 0 c oA0).1 ∧ (itI (orF B (col D) m P (nm D (D.1 / 2)) 0 (fun _ => 0)) 0 c oA0).1 ≤ c := fun c c0 =>
          itI_ind (P := fun k (b : OA) => 0 ≤ b.1 ∧ b.1 ≤ k) c0 ⟨by show (0 : Int) ≤ 0; omega, by show (0 : Int) ≤ 0; omega⟩ (fun k b _ _ hb => by
            unfold orF oadd
            split
            · dsimp only; omega
            · omega)
        refine lp_inv (fun n c (s : Int × gMN × gML × gMO) => wp_X7_orders_94 B P D _ Q n w (D.1 / 2) (p10 m) s.1 (nm D (D.1 / 2)) c s.2.1 s.2.2.1 s.2.2.2) (p10 m) (fun c s => 0 ≤ c ∧ Scr s.2.1 s.2.2.1 ∧ s.1 = (itI (orF B (col D) m P (nm D (D.1 / 2)) 0 (fun _ => 0)) 0 c oA0).1 ∧ (s.1 ≠ 0 → ∀ k, 0 ≤ k → k < D.1 / 2 → s.2.2.2.2 k = (itI (orF B (col D) m P (nm D (D.1 / 2)) 0 (fun _ => 0)) 0 c oA0).2 k)) ?_ ?_ 0 (0, N, L, O) (by omega) ⟨by omega, hN, by rw [itI_0 (by omega)]; rfl, fun q => absurd rfl q⟩
        · rintro n ⟨s, N3, L3, O3⟩ ⟨_, hs, f1, f3⟩
          dsimp only at hs f1 f3
          have hA := hA (p10 m) (by omega)
          generalize itI (orF B (col D) m P (nm D (D.1 / 2)) 0 (fun _ => 0)) 0 (p10 m) oA0 = A at *
          show wp_X7_orders_94 B P D _ Q (n + 1) w (D.1 / 2) (p10 m) s (nm D (D.1 / 2)) (p10 m) N3 L3 O3
          unfold wp_X7_orders_94
          refine ⟨⟨by omega, by omega⟩, ⟨by omega, by omega⟩, fun _ => ⟨rw_, fun y => ⟨⟨by omega, by omega⟩, fun a => ?_, fun a => s_X7_in rw_ (by decide) ⟨by omega, by omega⟩ (fun b c => ⟨fun q => absurd q (by decide), fun _ => ?_⟩) (fun b => ⟨fun _ => ?_, fun q => absurd rfl q⟩)⟩, fun y => ?_⟩, fun q => absurd (Int.le_refl _) q⟩
          · rw [if_neg y, if_neg (fun q => by omega)] at h; exact h _ _ _ hs
          · rw [if_neg y, if_pos (show 0 ≤ w ∧ w < D.1 / 2 ∧ 0 < A.1 from ⟨b, by omega, by omega⟩)] at h
            refine ⟨⟨by omega, by omega⟩, ?_⟩
            rw [f3 (by omega) w b (by omega)]; exact h _ _ _ hs
          · rw [if_neg y, if_neg (fun q => b ⟨q.1, by omega⟩)] at h; exact h _ _ _ hs
          · rw [if_pos (Decidable.of_not_not y)] at h; rw [f1]; exact h _ _ _ hs
        · rintro n c ⟨s, N3, L3, O3⟩ hlt ⟨c0, hs, f1, f3⟩ ih
          dsimp only at hs f1 f3
          have hA := hA c c0
          have next : itI (orF B (col D) m P (nm D (D.1 / 2)) 0 (fun _ => 0)) 0 (c + 1) oA0 = orF B (col D) m P (nm D (D.1 / 2)) 0 (fun _ => 0) c (itI (orF B (col D) m P (nm D (D.1 / 2)) 0 (fun _ => 0)) 0 c oA0) := itI_s c0
          generalize itI (orF B (col D) m P (nm D (D.1 / 2)) 0 (fun _ => 0)) 0 c oA0 = A at *
          have hvd := vd_is (B := B) (col := col D) (j := m) (N := P) (a := 0) (s := nm D (D.1 / 2)) (c := c) S10_0 hnm hpm (fun g _ _ _ => sb_0 g) c0 hlt
          have hbs := bts_S (j := m) (a := 0) (c := c) S10_0 c0 hlt
          show wp_X7_orders_94 B P D _ Q (n + 1) w (D.1 / 2) (p10 m) s (nm D (D.1 / 2)) c N3 L3 O3
          unfold wp_X7_orders_94
          refine ⟨⟨by omega, by omega⟩, ⟨by omega, by omega⟩, fun q => by omega, fun _ => ?_⟩
          refine lp_inv (fun n2 i (r : Int × Int × gMO) => wp_X7_orders_109 _ Q n2 w (D.1 / 2) (p10 m) s (nm D (D.1 / 2)) c r.1 r.2.1 i N3 L3 r.2.2) (D.1 / 2) (fun i r => ∃ j : Nat, 0 ≤ i ∧ i + j = m ∧ r.1 = p10 j ∧ S10 r.2.1 ∧ bts j r.2.1 (c % p10 j) = bts m 0 c ∧ (∀ k, 0 ≤ k → k < i → r.2.2.1 k = pth m 0 (fun _ => 0) c k) ∧ r.2.2.2 = O3.2) ?_ ?_ 0 (p10 m, 0, O3) (by omega) ⟨m, by omega, by omega, rfl, S10_0, by rw [Int.emod_eq_of_lt c0 hlt], fun k _ _ => by omega, rfl⟩
          · rintro n2 ⟨x7, x8, O4⟩ ⟨j, i0, ej, e7, s8, eb, ed, eo⟩
            dsimp only at e7 s8 eb ed eo
            have j0 : j = 0 := by omega
            subst j0
            have eb : x8 = bts m 0 c := eb
            have no : ∀ N5 L5, Scr N5 L5 → vd B (col D) m P (nm D (D.1 / 2)) c = false → wp_X7_orders_94 B P D _ Q n w (D.1 / 2) (p10 m) s (nm D (D.1 / 2)) (c + 1) N5 L5 O4 := fun N5 L5 hs5 q => ih (s, N5, L5, O4) ⟨by omega, hs5, by rw [next]; unfold orF; rw [if_neg (by rw [q]; decide)]; exact f1, fun z k k0 k1 => by
              rw [next]; unfold orF; rw [if_neg (by rw [q]; decide)]
              show O4.2 k = _
              rw [eo]; exact f3 z k k0 k1⟩
            show wp_X7_orders_109 _ Q (n2 + 1) w (D.1 / 2) (p10 m) s (nm D (D.1 / 2)) c x7 x8 (D.1 / 2) N3 L3 O4
            unfold wp_X7_orders_109
            refine ⟨⟨by omega, by omega⟩, ⟨by omega, by omega⟩, fun _ => ⟨⟨by have := s8.1; omega, by have := s8.2; omega⟩, ⟨by have := hnm.1; omega, by have := hnm.2; omega⟩, fun z => ?_, fun z => ?_⟩, fun q => absurd (Int.le_refl _) q⟩
            · unfold wp_X7_orders_169
              refine ⟨by decide, fun _ => ⟨1, ?_⟩, fun q => absurd rfl q⟩
              have nv : vd B (col D) m P (nm D (D.1 / 2)) c = false := by
                cases hv : vd B (col D) m P (nm D (D.1 / 2)) c
                · rfl
                · refine absurd (sb_ext s8 hnm (fun g g0 g1 => ?_)) z
                  rw [eb, (hvd.mp hv).1 g g0 g1, sb_0, Bool.false_or]
              unfold wp_X7_orders_183
              have fin : wp_X7_orders_232 (fun (x1 : Int) (x2 : Int) (x3 : Int) (x4 : Int) (x5 : Int) (x6 : Int) (N_h : gMN) (L_h : gML) (O_h : gMO) => wp_X7_orders_94 B P D (orK Q) Q n x1 x2 x3 x4 x5 x6 N_h L_h O_h) Q w (D.1 / 2) (p10 m) s (nm D (D.1 / 2)) c 0 N3 L3 O4 := by
                unfold wp_X7_orders_232
                exact ⟨by decide, fun _ => no N3 L3 hs nv, fun q => absurd rfl q⟩
              exact ⟨by decide, ⟨by omega, by omega⟩, fun _ => fin, fun _ => ⟨by decide, fun _ => fin, fun q => absurd rfl q⟩⟩
            · have z := Decidable.of_not_not z
              have hvs : vd B (col D) m P (nm D (D.1 / 2)) c = true ↔ sq B (col D) m P c = true := ⟨fun q => (hvd.mp q).2, fun q => hvd.mpr ⟨fun g _ _ => by rw [← eb, z, sb_0, Bool.false_or], q⟩⟩
              unfold wp_X7_orders_169
              refine ⟨by decide, fun q => absurd q (by decide), fun _ => s_X7_asNow hI.2.1.1 hs.1 ?_⟩
              have fin : ∀ (v : Int) (N5 : gMN) (L5 : gML), Scr N5 L5 → ((v = 1 ∧ sq B (col D) m P c = true) ∨ (v = 0 ∧ sq B (col D) m P c = false)) → wp_X7_orders_232 (fun (x1 : Int) (x2 : Int) (x3 : Int) (x4 : Int) (x5 : Int) (x6 : Int) (N_h : gMN) (L_h : gML) (O_h : gMO) => wp_X7_orders_94 B P D (orK Q) Q n x1 x2 x3 x4 x5 x6 N_h L_h O_h) Q w (D.1 / 2) (p10 m) s (nm D (D.1 / 2)) c v N5 L5 O4 := fun v N5 L5 hs5 hv => by
                unfold wp_X7_orders_232
                rcases hv with ⟨v1, sv⟩ | ⟨v0, sv⟩
                · have hv := hvs.mpr sv
                  rw [v1]
                  refine ⟨by decide, fun q => absurd q (by decide), fun _ => ?_⟩
                  have ef : orF B (col D) m P (nm D (D.1 / 2)) 0 (fun _ => 0) c A = oadd (pth m 0 (fun _ => 0) c) A := if_pos hv
                  refine lp_inv (fun n3 i (O5 : gMO) => wp_X7_orders_240 _ Q n3 w (D.1 / 2) (p10 m) s (nm D (D.1 / 2)) c i N5 L5 O5) (D.1 / 2) (fun i O5 => 0 ≤ i ∧ O5.1 = O4.1 ∧ (s = 0 → ∀ k, 0 ≤ k → k < i → O5.2 k = O4.1 k) ∧ (s ≠ 0 → O5.2 = O4.2)) ?_ ?_ 0 O4 (by omega) ⟨by omega, rfl, fun _ k _ _ => by omega, fun _ => rfl⟩
                  · rintro n3 O5 ⟨_, o1, o2, o3⟩
                    show wp_X7_orders_240 _ Q (n3 + 1) w (D.1 / 2) (p10 m) s (nm D (D.1 / 2)) c (D.1 / 2) N5 L5 O5
                    unfold wp_X7_orders_240
                    refine ⟨⟨by omega, by omega⟩, ⟨by omega, by omega⟩, fun _ => ih (s + 1, N5, L5, O5) ⟨by omega, hs5, ?_, fun _ k k0 k1 => ?_⟩, fun q => absurd (Int.le_refl _) q⟩
                    · rw [next, ef]; show s + 1 = A.1 + 1; rw [f1]
                    · rw [next, ef]
                      show O5.2 k = (if A.1 = 0 then pth m 0 (fun _ => 0) c else A.2) k
                      by_cases sz : s = 0
                      · rw [if_pos (by omega), o2 sz k k0 k1]; exact ed k k0 k1
                      · rw [if_neg (by omega), o3 sz, eo]; exact f3 sz k k0 k1
                  · rintro n3 i O5 hi ⟨i0, o1, o2, o3⟩ ih3
                    show wp_X7_orders_240 _ Q (n3 + 1) w (D.1 / 2) (p10 m) s (nm D (D.1 / 2)) c i N5 L5 O5
                    unfold wp_X7_orders_240
                    refine ⟨⟨by omega, by omega⟩, ⟨by omega, by omega⟩, fun q => by omega, fun _ => ⟨⟨by omega, by omega⟩, fun sz => ih (s + 1, N5, L5, O5) ⟨by omega, hs5, ?_, fun _ k k0 k1 => ?_⟩, fun sz => ⟨⟨by omega, by omega⟩, ih3 _ ⟨by omega, o1, fun _ k k0 k1 => ?_, fun q => absurd q sz⟩⟩⟩⟩
                    · rw [next, ef]; show s + 1 = A.1 + 1; rw [f1]
                    · rw [next, ef]
                      show O5.2 k = (if A.1 = 0 then pth m 0 (fun _ => 0) c else A.2) k
                      rw [if_neg (by omega), o3 sz, eo]; exact f3 sz k k0 k1
                    · show aset O5.2 i (O5.1 i) k = _
                      by_cases ek : k = i
                      · subst ek; rw [aset_s, o1]
                      · rw [aset_n ek]; exact o2 (Decidable.of_not_not sz) k k0 (by omega)
                · rw [v0]
                  refine ⟨by decide, fun _ => no N5 L5 hs5 ?_, fun q => absurd rfl q⟩
                  cases hv : vd B (col D) m P (nm D (D.1 / 2)) c
                  · rfl
                  · rw [hvs.mp hv] at sv; exact absurd sv (by decide)
              refine lp_inv (fun n3 i (r : Int × gMN × gML) => wp_X7_orders_183 B D _ Q n3 w (D.1 / 2) (p10 m) s (nm D (D.1 / 2)) c r.1 i r.2.1 r.2.2 O4) (D.1 / 2) (fun i r => ∃ j : Nat, 0 ≤ i ∧ i + j = m ∧ ((r.1 = 1 ∧ Inv B r.2.1 ∧ Z10 r.2.2 ∧ sq B (col D) j r.2.1 (c % p10 j) = sq B (col D) m P c) ∨ (r.1 = 0 ∧ Scr r.2.1 r.2.2 ∧ sq B (col D) m P c = false))) ?_ ?_ 0 (1, P, L3) (by omega) ⟨m, by omega, by omega, Or.inl ⟨rfl, hI, hs.2, by rw [Int.emod_eq_of_lt c0 hlt]⟩⟩
              · rintro n3 ⟨v, N5, L5⟩ ⟨j, i0, ej, hr⟩
                dsimp only at hr
                have j0 : j = 0 := by omega
                subst j0
                show wp_X7_orders_183 B D _ Q (n3 + 1) w (D.1 / 2) (p10 m) s (nm D (D.1 / 2)) c v (D.1 / 2) N5 L5 O4
                unfold wp_X7_orders_183
                refine ⟨⟨by omega, by omega⟩, ⟨by omega, by omega⟩, fun _ => ?_, fun q => absurd (Int.le_refl _) q⟩
                rcases hr with ⟨v1, hI5, hz5, hq⟩ | ⟨v0, hs5, hq⟩
                · exact fin v N5 L5 ⟨hI5.2.1.1, hz5⟩ (Or.inl ⟨v1, hq.symm⟩)
                · exact fin v N5 L5 hs5 (Or.inr ⟨v0, hq⟩)
              · rintro n3 i ⟨v, N5, L5⟩ hi ⟨j, i0, ej, hr⟩ ih3
                dsimp only at hr
                obtain ⟨t, rfl⟩ : ∃ t, j = t + 1 := ⟨j - 1, by omega⟩
                show wp_X7_orders_183 B D _ Q (n3 + 1) w (D.1 / 2) (p10 m) s (nm D (D.1 / 2)) c v i N5 L5 O4
                unfold wp_X7_orders_183
                rcases hr with ⟨v1, hI5, hz5, hq⟩ | ⟨v0, hs5, hq⟩
                · rw [v1]
                  have r0 := Int.emod_nonneg c (show p10 (t + 1) ≠ 0 by have := p10_pos (t + 1); omega)
                  have r1 := Int.emod_lt_of_pos c (p10_pos (t + 1))
                  obtain ⟨d1, d2⟩ := dgt r0 r1
                  have eg : O4.1 i = (c % p10 (t + 1)) / p10 t := by
                    have := pth_dg (j := m) (i := 0) (k := i) (f := fun _ => 0) (c := c) (t := t) c0 hlt i0 (by omega)
                    rw [Int.zero_add] at this
                    rw [ed i i0 hi, this]
                  have hq2 : (decide ((mput B N5 (O4.1 i) (col D (O4.1 i))).1 = 0) && sq B (col D) t (mput B N5 (O4.1 i) (col D (O4.1 i))).2 (c % p10 t)) = sq B (col D) m P c := by
                    rw [← hq, eg, show c % p10 t = c % p10 (t + 1) % p10 t from (Int.emod_emod_of_dvd _ (p10_dvd (by omega))).symm]; rfl
                  rw [← eg] at d1
                  have hc := col_r (g := O4.1 i) hn.2 h0.1 hg hd
                  have hI6 := inv_put (c := col D (O4.1 i)) hI5 d1.1 d1.2 hc.1
                  have hpr := mput_r B N5 (O4.1 i) (col D (O4.1 i))
                  refine ⟨⟨by omega, by omega⟩, ⟨by omega, by omega⟩, fun q => by omega, fun _ => ⟨by decide, fun q => absurd q (by decide), fun _ => ⟨⟨by omega, by omega⟩, s_X7_columnTold h0 ev hd ⟨by omega, by omega⟩ (s_X7_put hI5 hz5 d1.1 d1.2 hc (fun L6 hz6 => ⟨⟨by omega, by omega⟩, fun y => ih3 (0, _, L6) ⟨t, by omega, by omega, Or.inr ⟨rfl, ⟨hI6.2.1.1, hz6⟩, ?_⟩⟩, fun y => ih3 (1, _, L6) ⟨t, by omega, by omega, Or.inl ⟨rfl, hI6, hz6, ?_⟩⟩⟩))⟩⟩⟩
                  · rw [← hq2, decide_eq_false y]; rfl
                  · rw [← hq2, decide_eq_true (Decidable.of_not_not y)]; rfl
                · rw [v0]
                  exact ⟨⟨by omega, by omega⟩, ⟨by omega, by omega⟩, fun q => by omega, fun _ => ⟨by decide, fun _ => fin 0 N5 L5 hs5 (Or.inr ⟨rfl, hq⟩), fun q => absurd rfl q⟩⟩
          · rintro n2 i ⟨x7, x8, O4⟩ hi ⟨j, i0, ej, e7, s8, eb, ed, eo⟩ ih2
            dsimp only at e7 s8 eb ed eo
            obtain ⟨t, rfl⟩ : ∃ t, j = t + 1 := ⟨j - 1, by omega⟩
            have hp := p10_pos t
            have hp6 := p10_6 (j := t + 1) (by omega)
            have hps := p10_s t
            have r0 := Int.emod_nonneg c (show p10 (t + 1) ≠ 0 by omega)
            have r1 := Int.emod_lt_of_pos c (p10_pos (t + 1))
            obtain ⟨d1, d2⟩ := dgt r0 r1
            have e10 : (p10 (t + 1)).tdiv 10 = p10 t := by rw [Int.tdiv_eq_ediv_of_nonneg (by omega)]; omega
            have hc1 : 0 ≤ c.tdiv (p10 t) ∧ c.tdiv (p10 t) ≤ c := by
              rw [Int.tdiv_eq_ediv_of_nonneg c0]
              exact ⟨Int.ediv_nonneg c0 (by omega), Int.ediv_le_self _ c0⟩
            show wp_X7_orders_109 _ Q (n2 + 1) w (D.1 / 2) (p10 m) s (nm D (D.1 / 2)) c x7 x8 i N3 L3 O4
            unfold wp_X7_orders_109
            rw [e7, e10, aset_s, dig_is c0]
            refine ⟨⟨by omega, by omega⟩, ⟨by omega, by omega⟩, fun q => by omega, fun _ => ⟨⟨by omega, by omega⟩, by omega, ⟨by omega, by omega⟩, ⟨by omega, by omega⟩, ⟨by omega, by omega⟩, ⟨by omega, by omega⟩, ih2 (p10 t, _, _) ⟨t, by omega, by omega, rfl, S10_or s8 (S10_shl d1), ?_, fun k k0 k1 => ?_, eo⟩⟩⟩
            · rw [← eb, show c % p10 t = c % p10 (t + 1) % p10 t from (Int.emod_emod_of_dvd _ (p10_dvd (by omega))).symm]; rfl
            · dsimp only
              by_cases ek : k = i
              · subst ek
                have := pth_dg (j := m) (i := 0) (k := k) (f := fun _ => 0) (c := c) (t := t) c0 hlt k0 (by omega)
                rw [Int.zero_add] at this
                rw [aset_s, this]
              · rw [aset_n ek]; exact ed k k0 (by omega)
      · rintro n i y hlt ⟨i0, e⟩ ih
        show wp_X7_orders_60 D _ Q (n + 1) w (D.1 / 2) (p10 m) 0 y i N L O
        unfold wp_X7_orders_60
        exact ⟨⟨by omega, by omega⟩, ⟨by omega, by omega⟩, fun q => by omega, fun _ => ⟨⟨by omega, by omega⟩, ih _ ⟨by omega, by rw [nm_s i0, e]⟩⟩⟩
    · rintro n i x hlt ⟨i0, e⟩ ih
      show wp_X7_orders_34 _ Q (n + 1) w (D.1 / 2) x i N L O
      unfold wp_X7_orders_34
      exact ⟨⟨by omega, by omega⟩, ⟨by omega, by omega⟩, fun q => by omega, fun _ => ih _ ⟨by omega, by rw [show (i + 1).toNat = i.toNat + 1 by omega, p10_s, e]; omega⟩⟩
  · obtain ⟨ev, hd⟩ := ff_none h0.1 hf
    rw [if_neg (fun q => q hf), if_neg (by rw [gk]; decide), if_pos (by omega)] at h; exact h _ _ _ hN
  · by_cases hf : ff B.1 D = -6
    · rcases z with z | z
      · exact absurd hf z
      · rw [if_neg (fun q => q hf), if_pos z] at h; exact h _ _ _ hN
    · rw [if_pos hf] at h; exact h _ _ _ hN
