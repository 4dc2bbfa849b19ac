abbrev vwCl : List vw_C := [(RX0, TX0, 3), (RX1, TX1, 4), (RX2, TX2, 2), (RX3, TX3, 4), (RX4, TX4, 3), (RX5, TX5, 11), (RX6, TX6, 8), (RX7, TX7, 26)]
/-! The packaged machine: K pc lv st ws is the goal 'from here, whatever the heap that holds ws and the locals that hold lv, the method comes to its end'. -/
def iI (x : Int) : Int32 := Int32.ofInt x
def lL (x : Int) : Int64 := Int64.ofInt x
def mI (f : Int → Int) : Nat → Int32 := fun j => iI (f (j : Int))
def mL (f : Int → Int) : Nat → Int64 := fun j => lL (f (j : Int))
def aset (f : Int → Int) (i v : Int) : Int → Int := fun j => if j = i then v else f j
def acpy (f g : Int → Int) (n : Int) : Int → Int := fun j => if 0 ≤ j ∧ j < n then f j else g j
abbrev rI (x : Int) : Prop := -2147483648 ≤ x ∧ x ≤ 2147483647
abbrev rL (x : Int) : Prop := -9223372036854775808 ≤ x ∧ x ≤ 9223372036854775807
theorem iI_t {x : Int} (h : rI x) : (iI x).toInt = x := Int32.toInt_ofInt_of_le (by have := h.1; omega) (by have := h.2; omega)
theorem lL_t {x : Int} (h : rL x) : (lL x).toInt = x := Int64.toInt_ofInt_of_le (by have := h.1; omega) (by have := h.2; omega)
theorem iI_eq {x y : Int} (hx : rI x) (hy : rI y) : iI x = iI y ↔ x = y := by rw [← Int32.toInt_inj, iI_t hx, iI_t hy]
theorem iI_lt {x y : Int} (hx : rI x) (hy : rI y) : iI x < iI y ↔ x < y := by rw [Int32.lt_iff_toInt_lt, iI_t hx, iI_t hy]
theorem iI_le {x y : Int} (hx : rI x) (hy : rI y) : iI x ≤ iI y ↔ x ≤ y := by rw [Int32.le_iff_toInt_le, iI_t hx, iI_t hy]
theorem lL_eq {x y : Int} (hx : rL x) (hy : rL y) : lL x = lL y ↔ x = y := by rw [← Int64.toInt_inj, lL_t hx, lL_t hy]
theorem lL_lt {x y : Int} (hx : rL x) (hy : rL y) : lL x < lL y ↔ x < y := by rw [Int64.lt_iff_toInt_lt, lL_t hx, lL_t hy]
theorem lL_le {x y : Int} (hx : rL x) (hy : rL y) : lL x ≤ lL y ↔ x ≤ y := by rw [Int64.le_iff_toInt_le, lL_t hx, lL_t hy]
theorem iI_add (x y : Int) : iI x + iI y = iI (x + y) := (Int32.ofInt_add x y).symm
theorem iI_sub (x y : Int) : iI x - iI y = iI (x - y) := (Int32.ofInt_sub x y).symm
theorem iI_mul (x y : Int) : iI x * iI y = iI (x * y) := (Int32.ofInt_mul x y).symm
theorem iI_neg (x : Int) : - iI x = iI (-x) := (Int32.ofInt_neg x).symm
theorem lL_add (x y : Int) : lL x + lL y = lL (x + y) := (Int64.ofInt_add x y).symm
theorem lL_sub (x y : Int) : lL x - lL y = lL (x - y) := (Int64.ofInt_sub x y).symm
theorem lL_mul (x y : Int) : lL x * lL y = lL (x * y) := (Int64.ofInt_mul x y).symm
theorem iI_0 : (0 : Int32) = iI 0 := by decide
theorem lL_0 : (0 : Int64) = lL 0 := by decide
theorem rI_0 : rI 0 := by decide
theorem rL_0 : rL 0 := by decide
theorem iI_cl {x : Int} (h0 : 0 ≤ x) (h : x ≤ 2147483647) : (iI x).toNatClampNeg = x.toNat := Int32.toNatClampNeg_ofInt_of_le (by omega) (by omega)
theorem iI_in {i : Int} {n : Nat} (h : 0 ≤ i ∧ i < n) (hn : n ≤ 2147483647) : vp_in (iI i) n := by
  have hc := iI_cl h.1 (by omega)
  unfold vp_in
  rw [hc, iI_0, iI_lt ⟨by omega, by omega⟩ rI_0]
  omega
theorem mI_at {f : Int → Int} {i : Int} {n : Nat} (h : 0 ≤ i ∧ i < n) (hn : n ≤ 2147483647) : mI f (iI i).toNatClampNeg = iI (f i) := by
  rw [iI_cl h.1 (by omega)]
  show iI (f ((i.toNat : Nat) : Int)) = _
  rw [Int.toNat_of_nonneg h.1]
theorem mL_at {f : Int → Int} {i : Int} {n : Nat} (h : 0 ≤ i ∧ i < n) (hn : n ≤ 2147483647) : mL f (iI i).toNatClampNeg = lL (f i) := by
  rw [iI_cl h.1 (by omega)]
  show lL (f ((i.toNat : Nat) : Int)) = _
  rw [Int.toNat_of_nonneg h.1]
theorem mI_set {f : Int → Int} {i v : Int} {n : Nat} (h : 0 ≤ i ∧ i < n) (hn : n ≤ 2147483647) : upd (mI f) (iI i).toNatClampNeg (iI v) = mI (aset f i v) := by
  rw [iI_cl h.1 (by omega)]
  funext j
  show (if j = i.toNat then iI v else iI (f (j : Int))) = iI (if (j : Int) = i then v else f (j : Int))
  by_cases e : j = i.toNat
  · rw [if_pos e, if_pos (by omega)]
  · rw [if_neg e, if_neg (by omega)]
theorem mL_set {f : Int → Int} {i v : Int} {n : Nat} (h : 0 ≤ i ∧ i < n) (hn : n ≤ 2147483647) : vp_updL (mL f) (iI i).toNatClampNeg (lL v) = mL (aset f i v) := by
  rw [iI_cl h.1 (by omega)]
  funext j
  show (if j = i.toNat then lL v else lL (f (j : Int))) = lL (if (j : Int) = i then v else f (j : Int))
  by_cases e : j = i.toNat
  · rw [if_pos e, if_pos (by omega)]
  · rw [if_neg e, if_neg (by omega)]
theorem iI_div {x y : Int} (hx : rI x) (hy : rI y) : iI x / iI y = iI (x.tdiv y) := (Int32.ofInt_tdiv hx.1 hx.2 hy.1 hy.2).symm
theorem lL_div {x y : Int} (hx : rL x) (hy : rL y) : lL x / lL y = lL (x.tdiv y) := (Int64.ofInt_tdiv hx.1 hx.2 hy.1 hy.2).symm
theorem iI_rem {x y : Int} (hx : rI x) (hy : rI y) : iI x - iI x / iI y * iI y = iI (x.tmod y) := by
  rw [iI_div hx hy, iI_mul, iI_sub, Int.tmod_def, Int.mul_comm]
theorem lL_rem {x y : Int} (hx : rL x) (hy : rL y) : lL x - lL x / lL y * lL y = lL (x.tmod y) := by
  rw [lL_div hx hy, lL_mul, lL_sub, Int.tmod_def, Int.mul_comm]
theorem iI_long {x : Int} (hx : rI x) : (iI x).toInt64 = lL x := Int32.toInt64_ofInt hx.1 hx.2
/-- bitwise: by the machine's own words -/
def iand (x y : Int) : Int := (iI x &&& iI y).toInt
def ior (x y : Int) : Int := (iI x ||| iI y).toInt
def ixor (x y : Int) : Int := (iI x ^^^ iI y).toInt
def ishl (x y : Int) : Int := (iI x <<< (iI y &&& 31)).toInt
def ishr (x y : Int) : Int := (iI x >>> (iI y &&& 31)).toInt
def iushr (x y : Int) : Int := (((iI x).toUInt32 >>> ((iI y).toUInt32 &&& Int32.toUInt32 31)).toInt32).toInt
theorem iI_of (x : Int32) : iI x.toInt = x := Int32.ofInt_toInt x
/-- long comparison -/
def lc (x y : Int) : Int := if y < x then 1 else if x = y then 0 else -1
theorem iI_lc {x y : Int} (hx : rL x) (hy : rL y) : lg_cmp (lL x) (lL y) = iI (lc x y) := by
  unfold lg_cmp lc
  by_cases h1 : y < x
  · rw [if_pos ((lL_lt hy hx).mpr h1), if_pos h1]; rfl
  · rw [if_neg (fun h => h1 ((lL_lt hy hx).mp h)), if_neg h1]
    by_cases h2 : x = y
    · rw [if_pos ((lL_eq hx hy).mpr h2), if_pos h2]; rfl
    · rw [if_neg (fun h => h2 ((lL_eq hx hy).mp h)), if_neg h2]; rfl
theorem lc_r (x y : Int) : rI (lc x y) := by unfold lc rI; split <;> (try split) <;> omega
theorem lc_le (x y : Int) : lc x y ≤ 0 ↔ x ≤ y := by unfold lc; split <;> (try split) <;> omega
theorem lc_ge (x y : Int) : 0 ≤ lc x y ↔ y ≤ x := by unfold lc; split <;> (try split) <;> omega
theorem lc_lt (x y : Int) : lc x y < 0 ↔ x < y := by unfold lc; split <;> (try split) <;> omega
theorem lc_gt (x y : Int) : 0 < lc x y ↔ y < x := by unfold lc; split <;> (try split) <;> omega
theorem lc_eq (x y : Int) : lc x y = 0 ↔ x = y := by unfold lc; split <;> (try split) <;> omega
theorem iI_max {x y : Int} (hx : rI x) (hy : rI y) : (if iI x < iI y then iI y else iI x) = iI (max x y) := by
  by_cases h : x < y
  · rw [if_pos ((iI_lt hx hy).mpr h), Int.max_eq_right (by omega)]
  · rw [if_neg (fun q => h ((iI_lt hx hy).mp q)), Int.max_eq_left (by omega)]
theorem iI_min {x y : Int} (hx : rI x) (hy : rI y) : (if iI y < iI x then iI y else iI x) = iI (min x y) := by
  by_cases h : y < x
  · rw [if_pos ((iI_lt hy hx).mpr h), Int.min_eq_right (by omega)]
  · rw [if_neg (fun q => h ((iI_lt hy hx).mp q)), Int.min_eq_left (by omega)]
def iabs (x : Int) : Int := if 0 ≤ x then x else -x
theorem iI_abs {x : Int} (hx : rI x) : (if 0 ≤ iI x then iI x else 0 - iI x) = iI (iabs x) := by
  unfold iabs
  by_cases h : 0 ≤ x
  · rw [if_pos (by rw [iI_0, iI_le rI_0 hx]; exact h), if_pos h]
  · rw [if_neg (by rw [iI_0, iI_le rI_0 hx]; exact h), if_neg h, iI_0, iI_sub]; congr 1; omega
theorem mI_cpy {f g : Int → Int} {x : Int} (h0 : 0 ≤ x) : va_cpy (mI f) (mI g) 0 0 x.toNat = mI (acpy f g x) := by
  funext j
  show (if 0 ≤ j ∧ j < 0 + x.toNat then mI f (0 + (j - 0)) else mI g j) = iI (if 0 ≤ (j : Int) ∧ (j : Int) < x then f (j : Int) else g (j : Int))
  by_cases h : j < x.toNat
  · rw [if_pos ⟨Nat.zero_le _, by omega⟩, if_pos ⟨by omega, by omega⟩]; show iI (f ((0 + (j - 0) : Nat) : Int)) = _; congr 2; omega
  · rw [if_neg (by omega), if_neg (by omega)]; rfl
/-! what a return at pc hands out -/
def kRet (cc : ByteArray) (pc : Nat) : Option Value → Prop
  | none => decode cc pc = .ok (.return_, 1)
  | some (.int _) => decode cc pc = .ok (.ireturn, 1)
  | some (.long _) => decode cc pc = .ok (.lreturn, 1)
  | _ => False
def kOk (ret : Option FieldType) (v : Option Value) : Prop := (ret = none ∧ v = none) ∨ (ret = some .int ∧ ∃ x : Int32, v = some (.int x)) ∨ (ret = some .boolean ∧ (v = some (.int (iI 0)) ∨ v = some (.int (iI 1)))) ∨ (ret = some .long ∧ ∃ x : Int64, v = some (.long x))
def nW : List Cond := [Cond.methodLinkNest "GuestStones" 9 ⟨"GuestStones$Wall", "<init>", "()V"⟩ "GuestStones", Cond.fieldLinkNest "GuestStones" 61 "GuestStones$Wall" "columns" "I" "GuestStones", Cond.fieldLinkNest "GuestStones" 83 "GuestStones$Wall" "given" "I" "GuestStones", Cond.fieldLinkNest "GuestStones" 258 "GuestStones$Wall" "laid" "I" "GuestStones", Cond.fieldLinkNest "GuestStones" 180 "GuestStones$Wall" "wide" "[I" "GuestStones", Cond.fieldLinkNest "GuestStones" 267 "GuestStones$Wall" "weight" "[I" "GuestStones", Cond.fieldLinkNest "GuestStones" 161 "GuestStones$Wall" "bears" "[I" "GuestStones", Cond.fieldLinkNest "GuestStones" 183 "GuestStones$Wall" "row" "[I" "GuestStones", Cond.fieldLinkNest "GuestStones$Rows" 29 "GuestStones$Wall" "top" "[I" "GuestStones", Cond.fieldLinkNest "GuestStones$Sights" 34 "GuestStones$Wall" "top" "[I" "GuestStones", Cond.fieldLinkNest "GuestStones" 117 "GuestStones$Wall" "top" "[I" "GuestStones", Cond.fieldLinkNest "GuestStones" 134 "GuestStones$Wall" "units" "[J" "GuestStones", Cond.methodLinkNest "GuestStones" 21 ⟨"GuestStones$Sights", "<init>", "()V"⟩ "GuestStones", Cond.fieldLinkNest "GuestStones" 69 "GuestStones$Sights" "count" "I" "GuestStones", Cond.methodLinkNest "GuestStones" 28 ⟨"GuestStones$Pad", "<init>", "()V"⟩ "GuestStones", Cond.fieldLinkNest "GuestStones" 92 "GuestStones$Pad" "count" "I" "GuestStones", Cond.methodLinkNest "GuestStones" 35 ⟨"GuestStones$Image", "<init>", "()V"⟩ "GuestStones", Cond.methodLinkNest "GuestStones$Image" 9 ⟨"GuestStones$Wall", "<init>", "()V"⟩ "GuestStones", Cond.methodLinkNest "GuestStones$Image" 18 ⟨"GuestStones$Sights", "<init>", "()V"⟩ "GuestStones", Cond.fieldLinkNest "GuestStones" 254 "GuestStones$Image" "isKept" "Z" "GuestStones", Cond.fieldLinkNest "GuestStones" 247 "GuestStones$Image" "wall" "LGuestStones$Wall;" "GuestStones", Cond.fieldLinkNest "GuestStones" 250 "GuestStones$Image" "sights" "LGuestStones$Sights;" "GuestStones", Cond.methodLinkNest "GuestStones" 45 ⟨"GuestStones$Rows", "<init>", "()V"⟩ "GuestStones", Cond.fieldLinkNest "GuestStones" 217 "GuestStones$Rows" "count" "I" "GuestStones", Cond.fieldLinkNest "GuestStones" 218 "GuestStones$Rows" "inSome" "I" "GuestStones", Cond.fieldLinkNest "GuestStones" 221 "GuestStones$Rows" "inAll" "I" "GuestStones", Cond.methodLinkNest "GuestStones" 52 ⟨"GuestStones$Orders", "<init>", "()V"⟩ "GuestStones", Cond.fieldLinkNest "GuestStones" 197 "GuestStones$Orders" "count" "I" "GuestStones", Cond.fieldLinkNest "GuestStones" 300 "GuestStones$Orders" "column" "[I" "GuestStones", Cond.fieldLinkNest "GuestStones" 303 "GuestStones$Orders" "path" "[I" "GuestStones", Cond.fieldLinkNest "GuestStones" 198 "GuestStones$Orders" "first" "[I" "GuestStones", Cond.methodLinkNest "GuestStones$Wall" 47 ⟨"GuestStones", "fill", "([II)V"⟩ "GuestStones", Cond.methodLinkNest "GuestStones$Wall" 59 ⟨"GuestStones", "hasBit", "(II)Z"⟩ "GuestStones", Cond.methodLinkNest "GuestStones$Wall" 55 ⟨"GuestStones", "set", "([III)V"⟩ "GuestStones", Cond.methodLinkNest "GuestStones$Pad" 19 ⟨"GuestStones", "set", "([III)V"⟩ "GuestStones", Cond.methodLinkNest "GuestStones$Pad" 23 ⟨"GuestStones", "at", "([II)I"⟩ "GuestStones", Cond.methodLinkNest "GuestStones$Wall" 51 ⟨"GuestStones", "copy", "([I[I)V"⟩ "GuestStones", Cond.methodLinkNest "GuestStones$Wall" 71 ⟨"GuestStones", "at", "([II)I"⟩ "GuestStones", Cond.methodLinkNest "GuestStones$Wall" 115 ⟨"GuestStones", "fill", "([JJ)V"⟩ "GuestStones", Cond.methodLinkNest "GuestStones$Wall" 127 ⟨"GuestStones", "at", "([JI)J"⟩ "GuestStones", Cond.methodLinkNest "GuestStones$Wall" 130 ⟨"GuestStones", "addTo", "([JIJ)V"⟩ "GuestStones", Cond.methodLinkNest "GuestStones$Orders" 38 ⟨"GuestStones", "set", "([III)V"⟩ "GuestStones", Cond.methodLinkNest "GuestStones$Orders" 42 ⟨"GuestStones", "copy", "([I[I)V"⟩ "GuestStones", Cond.methodLinkNest "GuestStones$Sights" 26 ⟨"GuestStones", "set", "([III)V"⟩ "GuestStones", Cond.methodLinkNest "GuestStones$Rows" 25 ⟨"GuestStones", "fill", "([II)V"⟩ "GuestStones", Cond.methodLinkNest "GuestStones$Sights" 30 ⟨"GuestStones", "at", "([II)I"⟩ "GuestStones", Cond.methodLinkNest "GuestStones$Rows" 34 ⟨"GuestStones", "at", "([II)I"⟩ "GuestStones", Cond.methodLinkNest "GuestStones$Rows" 38 ⟨"GuestStones", "set", "([III)V"⟩ "GuestStones", Cond.methodLinkNest "GuestStones$Sights" 22 ⟨"GuestStones", "copy", "([I[I)V"⟩ "GuestStones"]
def nIs : Cond → Bool
  | .fieldLinkNest .. => true
  | .methodLinkNest .. => true
  | _ => false
def nOk (s : State) : Prop := ∀ w ∈ nW, va_Nw w s
theorem nW_is : ∀ w ∈ nW, nIs w = true := by decide +kernel
theorem nOk_warm {s U : State} (hW : s.WarmedH U.vm) (h : nOk s) : nOk U := fun w hw => by
  have h1 := nW_is w hw
  have h2 := h w hw
  cases w <;> first | exact va_Nw.warmF hW h2 | exact va_Nw.warmM hW h2 | (simp [nIs] at h1; done)
theorem nOk_same {s U : State} (hv : s.vm = U.vm) (h : nOk s) : nOk U := fun w hw => by
  have h1 := nW_is w hw
  have h2 := h w hw
  cases w <;> first | exact va_Nw.same rfl hv h2 | (simp [nIs] at h1; done)
abbrev KT : Type := Nat → Nat → Nat → List (Nat × Value) → List Value → va_W → Prop
def KC (cc : ByteArray) (own : String) (Ts : List Cond) (R : Room) (nL : Nat) (D : va_G) (tys : List (ClassId × FieldType)) (A : Nat → Prop) (l : Launch) (ini : Bool) (RP : Option Value → va_W → Prop) (mc ms : Nat) (K : KT) : Prop :=
  ∃ (p : Program) (e : Env) (s : State) (m : MethodId) (args : Array Value) (below : List Frame) (meth : Method) (c : Code) (Q : State → Prop), CallFix p m c cc nL s args Ts own ∧ va_K D vwCl tys s ∧ (∀ q, s.heap.size ≤ q → A q) ∧ (ini = true → meth.name = "<init>") ∧ nOk s ∧
    (K = fun cells slots pc lv st ws => ∀ (H : Heap) (locs : List Loc) (ls : Array Slot), va_P D vwCl ws H → va_D A ws → va_S A s.heap H locs → lv_has ls nL lv → W p l e R s m args below meth c H locs cells slots Q (F0 m pc ls st)) ∧
    (∀ pc lv v ws, kRet cc pc v → RP v ws → K mc ms pc lv v.toList ws)
def KQ (RP : Option Value → va_W → Prop) (D : va_G) (tys : List (ClassId × FieldType)) (A : Nat → Prop) : Array Value → State → Outcome → State → Prop := fun _ st oc t => (∃ (v : Option Value) (ws : va_W), oc = .returned v ∧ RP v ws ∧ va_P D vwCl ws t.heap ∧ va_K D vwCl tys t ∧ va_D A ws) ∧ va_F A st t
def KM (l : Launch) (D : va_G) (tys : List (ClassId × FieldType)) (mc ms : Nat) (y : MethodName) (wsy : List Cond) (rm : Room) (argv : List Value) (wsIn : va_W) (RP : Option Value → va_W → Prop) : Prop :=
  ∀ sz : Nat, Met l y wsy rm (va_Pc argv (fun U => U.heap.size = sz ∧ va_P D vwCl wsIn U.heap ∧ va_K D vwCl tys U ∧ va_D (fun _ => True) wsIn ∧ nOk U)) (KQ RP D tys (va_A wsIn sz)) mc ms (va_A wsIn sz)
set_option maxHeartbeats 2000000 in
theorem KM_intro {l : Launch} {D : va_G} {tys : List (ClassId × FieldType)} {mc ms : Nat} {y : MethodName} {wsy ws' : List Cond} {rm : Room} {argv : List Value} {wsIn : va_W} {RP : Option Value → va_W → Prop} {cc : ByteArray} {nL : Nat} {ret : Option FieldType} {lv : List (Nat × Value)} (ini : Bool)
    (hw : wsy = Cond.code y cc nL ret :: ws') (hpl : plainName y.cls = true) (harg : (lg_sl argv).length ≤ nL) (hlv : lv_args 0 argv = lv) (hini : ini = true → y.name = "<init>") (hRP : ∀ v ws, RP v ws → kOk ret v)
    (h : ∀ (A : Nat → Prop) (K : KT), KC cc y.cls wsy rm nL D tys A l ini RP mc ms K → K 0 0 0 lv [] wsIn) : KM l D tys mc ms y wsy rm argv wsIn RP := by
  intro sz
  refine Met.ofW (cc := cc) (maxL := nL) (ret := ret) hpl hw ?_
  intro p e s m args below meth c s₁ B hml hv
  obtain ⟨rfl, hsz, hP, hK, hD0, hNk⟩ := hv
  have hx := B.exec
  have hb := B.bytes
  have hr := B.returns
  have hts := atoms_spec (ws := wsy) B.pre
  have hown : s.vm.findClass y.cls = some m.cls := findClass_of_methodNamed B.named
  have hlocks : meth.locks = false := B.notSynchronized
  have hin : meth.name = y.name := (name_of_methodNamed B.named B.method).1
  subst hsz
  have hD := hD0.self (sz := s.heap.size)
  have hA : ∀ q : Nat, s.heap.size ≤ q → va_A wsIn s.heap.size q := fun q h => Or.inr h
  have hS : va_S (va_A wsIn s.heap.size) s.heap s.heap [] := va_S.rf
  have hl := lv_entry argv (n := nL) harg
  rw [lg_entry_eq]
  rw [hlv] at hl
  refine h (va_A wsIn s.heap.size) _ ⟨p, e, s, m, argv.toArray, below, meth, c, MQ below (KQ RP D tys (va_A wsIn s.heap.size)) argv.toArray s mc ms (va_A wsIn s.heap.size), ⟨hx, hb, hml, hown, hts⟩, hK, hA, fun hi => hin.trans (hini hi), hNk, rfl, ?_⟩ s.heap [] _ hP hD hS hl
  intro pc lv v ws hk hq H locs ls hP hD hS hl
  have hE : ∀ t : State, t.heap = H → s.WarmedH t.vm → KQ RP D tys (va_A wsIn s.heap.size) argv.toArray s (.returned v) t := fun t ht hW => ⟨⟨v, ws, rfl, hq, by rw [ht]; exact hP, va_K.moved hW.alike hK, hD⟩, hS.F ht⟩
  rcases hRP v ws hq with ⟨h1, h2⟩ | ⟨h1, x, h2⟩ | ⟨h1, h2 | h2⟩ | ⟨h1, x, h2⟩
  · subst h2; exact W.vret hx hb (hr.trans h1) hE hS.2.2 hk
  · subst h2; exact W.iret hx hb (hr.trans h1) hE hS.2.2 hk
  · subst h2; exact W.zret hx hb (hr.trans h1) rfl hE hS.2.2 hk
  · subst h2; exact W.zret hx hb (hr.trans h1) rfl hE hS.2.2 hk
  · subst h2; exact W.lret hx hb (hr.trans h1) hE hS.2.2 hk

section KR
variable {cc : ByteArray} {own : String} {Ts : List Cond} {R : Room} {nL : Nat} {D : va_G} {tys : List (ClassId × FieldType)} {A : Nat → Prop} {l : Launch} {ini : Bool} {RP : Option Value → va_W → Prop} {mc ms : Nat} {K : KT} {cs sl pc : Nat} {lv : List (Nat × Value)} {st : List Value} {ws : va_W}
theorem k_iconst {n0 : Int} (C : KC cc own Ts R nL D tys A l ini RP mc ms K) (hd : decode cc pc = .ok (.iconst n0, 1)) (n : Nat) (hn : pc + 1 = n) (k : K cs sl n lv (.int (iI n0) :: st) ws) : K cs sl pc lv (st) ws := by
  obtain ⟨p, e, s, m, args, below, meth, c, Q, ⟨hx, hb, hml, hown, hts⟩, hK, hA, hin, hNk, rfl, hret⟩ := C
  intro H locs ls hP hD hS hl
  subst hn
  exact lv_iconst (v := iI n0) hx hb hd rfl (k H locs ls hP hD hS hl)
theorem k_bipush {n0 : Int} (C : KC cc own Ts R nL D tys A l ini RP mc ms K) (hd : decode cc pc = .ok (.bipush n0, 2)) (hv : (Int8.ofInt n0).toInt32 = iI n0) (n : Nat) (hn : pc + 2 = n) (k : K cs sl n lv (.int (iI n0) :: st) ws) : K cs sl pc lv (st) ws := by
  obtain ⟨p, e, s, m, args, below, meth, c, Q, ⟨hx, hb, hml, hown, hts⟩, hK, hA, hin, hNk, rfl, hret⟩ := C
  intro H locs ls hP hD hS hl
  subst hn
  exact lv_bipush (v := iI n0) hx hb hd hv (k H locs ls hP hD hS hl)
theorem k_sipush {n0 : Int} (C : KC cc own Ts R nL D tys A l ini RP mc ms K) (hd : decode cc pc = .ok (.sipush n0, 3)) (hv : (Int16.ofInt n0).toInt32 = iI n0) (n : Nat) (hn : pc + 3 = n) (k : K cs sl n lv (.int (iI n0) :: st) ws) : K cs sl pc lv (st) ws := by
  obtain ⟨p, e, s, m, args, below, meth, c, Q, ⟨hx, hb, hml, hown, hts⟩, hK, hA, hin, hNk, rfl, hret⟩ := C
  intro H locs ls hP hD hS hl
  subst hn
  exact lv_sipush (v := iI n0) hx hb hd hv (k H locs ls hP hD hS hl)
theorem k_lconst {n0 : Fin 2} {v : Int} (C : KC cc own Ts R nL D tys A l ini RP mc ms K) (hd : decode cc pc = .ok (.lconst n0, 1)) (hv : Int64.ofNat (n0 : Nat) = lL v) (n : Nat) (hn : pc + 1 = n) (k : K cs sl n lv (.long (lL v) :: st) ws) : K cs sl pc lv (st) ws := by
  obtain ⟨p, e, s, m, args, below, meth, c, Q, ⟨hx, hb, hml, hown, hts⟩, hK, hA, hin, hNk, rfl, hret⟩ := C
  intro H locs ls hP hD hS hl
  subst hn
  exact lv_lconst (v := lL v) hx hb hd hv (k H locs ls hP hD hS hl)
theorem k_ldc {ix : Nat} {v0 : Int32} {v : Int} (C : KC cc own Ts R nL D tys A l ini RP mc ms K) (hd : decode cc pc = .ok (.ldc ix, 2)) (hw : Cond.constant own ix v0 ∈ Ts) (hv : v0 = iI v) (n : Nat) (hn : pc + 2 = n) (k : K cs sl n lv (.int (iI v) :: st) ws) : K cs sl pc lv (st) ws := by
  obtain ⟨p, e, s, m, args, below, meth, c, Q, ⟨hx, hb, hml, hown, hts⟩, hK, hA, hin, hNk, rfl, hret⟩ := C
  intro H locs ls hP hD hS hl
  subst hn
  subst hv; exact lv_ldc (v := iI v) hx hb hown (hts _ hw) hd (k H locs ls hP hD hS hl)
theorem k_ldcw {ix : Nat} {v0 : Int32} {v : Int} (C : KC cc own Ts R nL D tys A l ini RP mc ms K) (hd : decode cc pc = .ok (.ldc_w ix, 3)) (hw : Cond.constant own ix v0 ∈ Ts) (hv : v0 = iI v) (n : Nat) (hn : pc + 3 = n) (k : K cs sl n lv (.int (iI v) :: st) ws) : K cs sl pc lv (st) ws := by
  obtain ⟨p, e, s, m, args, below, meth, c, Q, ⟨hx, hb, hml, hown, hts⟩, hK, hA, hin, hNk, rfl, hret⟩ := C
  intro H locs ls hP hD hS hl
  subst hn
  subst hv; exact lv_ldcw (v := iI v) hx hb hown (hts _ hw) hd (k H locs ls hP hD hS hl)
theorem k_ldc2 {ix : Nat} {v0 : Int64} {v : Int} (C : KC cc own Ts R nL D tys A l ini RP mc ms K) (hd : decode cc pc = .ok (.ldc2_w ix, 3)) (hw : Cond.constantLong own ix v0 ∈ Ts) (hv : v0 = lL v) (n : Nat) (hn : pc + 3 = n) (k : K cs sl n lv (.long (lL v) :: st) ws) : K cs sl pc lv (st) ws := by
  obtain ⟨p, e, s, m, args, below, meth, c, Q, ⟨hx, hb, hml, hown, hts⟩, hK, hA, hin, hNk, rfl, hret⟩ := C
  intro H locs ls hP hD hS hl
  subst hn
  subst hv; exact lv_ldc2 (v := lL v) hx hb hown (hts _ hw) hd (k H locs ls hP hD hS hl)
theorem k_iload_n {k4 : Fin 4} {i : Nat} {x : Int32} (C : KC cc own Ts R nL D tys A l ini RP mc ms K) (hd : decode cc pc = .ok (.iload_n k4, 1)) (j : Nat) (hi : (k4 : Nat) = i) (hj : lv[j]? = some (i, .int x)) (n : Nat) (hn : pc + 1 = n) (k : K cs sl n lv (.int x :: st) ws) : K cs sl pc lv (st) ws := by
  obtain ⟨p, e, s, m, args, below, meth, c, Q, ⟨hx, hb, hml, hown, hts⟩, hK, hA, hin, hNk, rfl, hret⟩ := C
  intro H locs ls hP hD hS hl
  subst hn
  exact lv_iload_n hx hb hd hi (lv_at hl j hj) (k H locs ls hP hD hS hl)
theorem k_iload {i : Nat} {x : Int32} (C : KC cc own Ts R nL D tys A l ini RP mc ms K) (hd : decode cc pc = .ok (.iload i, 2)) (j : Nat) (hj : lv[j]? = some (i, .int x)) (n : Nat) (hn : pc + 2 = n) (k : K cs sl n lv (.int x :: st) ws) : K cs sl pc lv (st) ws := by
  obtain ⟨p, e, s, m, args, below, meth, c, Q, ⟨hx, hb, hml, hown, hts⟩, hK, hA, hin, hNk, rfl, hret⟩ := C
  intro H locs ls hP hD hS hl
  subst hn
  exact lv_iload hx hb hd (lv_at hl j hj) (k H locs ls hP hD hS hl)
theorem k_lload_n {k4 : Fin 4} {i : Nat} {x : Int64} (C : KC cc own Ts R nL D tys A l ini RP mc ms K) (hd : decode cc pc = .ok (.lload_n k4, 1)) (j : Nat) (hi : (k4 : Nat) = i) (hj : lv[j]? = some (i, .long x)) (n : Nat) (hn : pc + 1 = n) (k : K cs sl n lv (.long x :: st) ws) : K cs sl pc lv (st) ws := by
  obtain ⟨p, e, s, m, args, below, meth, c, Q, ⟨hx, hb, hml, hown, hts⟩, hK, hA, hin, hNk, rfl, hret⟩ := C
  intro H locs ls hP hD hS hl
  subst hn
  exact lv_lload_n hx hb hd hi (lv_at hl j hj) (k H locs ls hP hD hS hl)
theorem k_lload {i : Nat} {x : Int64} (C : KC cc own Ts R nL D tys A l ini RP mc ms K) (hd : decode cc pc = .ok (.lload i, 2)) (j : Nat) (hj : lv[j]? = some (i, .long x)) (n : Nat) (hn : pc + 2 = n) (k : K cs sl n lv (.long x :: st) ws) : K cs sl pc lv (st) ws := by
  obtain ⟨p, e, s, m, args, below, meth, c, Q, ⟨hx, hb, hml, hown, hts⟩, hK, hA, hin, hNk, rfl, hret⟩ := C
  intro H locs ls hP hD hS hl
  subst hn
  exact lv_lload hx hb hd (lv_at hl j hj) (k H locs ls hP hD hS hl)
theorem k_aload_n {k4 : Fin 4} {i : Nat} {x : Nat} (C : KC cc own Ts R nL D tys A l ini RP mc ms K) (hd : decode cc pc = .ok (.aload_n k4, 1)) (j : Nat) (hi : (k4 : Nat) = i) (hj : lv[j]? = some (i, .ref x)) (n : Nat) (hn : pc + 1 = n) (k : K cs sl n lv (.ref x :: st) ws) : K cs sl pc lv (st) ws := by
  obtain ⟨p, e, s, m, args, below, meth, c, Q, ⟨hx, hb, hml, hown, hts⟩, hK, hA, hin, hNk, rfl, hret⟩ := C
  intro H locs ls hP hD hS hl
  subst hn
  exact lv_aload_n hx hb hd hi (lv_at hl j hj) (k H locs ls hP hD hS hl)
theorem k_aload {i : Nat} {x : Nat} (C : KC cc own Ts R nL D tys A l ini RP mc ms K) (hd : decode cc pc = .ok (.aload i, 2)) (j : Nat) (hj : lv[j]? = some (i, .ref x)) (n : Nat) (hn : pc + 2 = n) (k : K cs sl n lv (.ref x :: st) ws) : K cs sl pc lv (st) ws := by
  obtain ⟨p, e, s, m, args, below, meth, c, Q, ⟨hx, hb, hml, hown, hts⟩, hK, hA, hin, hNk, rfl, hret⟩ := C
  intro H locs ls hP hD hS hl
  subst hn
  exact lv_aload hx hb hd (lv_at hl j hj) (k H locs ls hP hD hS hl)
theorem k_istore_n {k4 : Fin 4} {i : Nat} {x : Int32} (C : KC cc own Ts R nL D tys A l ini RP mc ms K) (hd : decode cc pc = .ok (.istore_n k4, 1)) (hi : (k4 : Nat) = i) (hni : i < nL) (lv' : List (Nat × Value)) (hlv : (i, Value.int x) :: lv.filter (fun q => !(q.1 == i) && !(q.1 + 1 == i && q.2.category == 2)) = lv') (n : Nat) (hn : pc + 1 = n) (k : K cs sl n lv' st ws) : K cs sl pc lv (.int x :: st) ws := by
  obtain ⟨p, e, s, m, args, below, meth, c, Q, ⟨hx, hb, hml, hown, hts⟩, hK, hA, hin, hNk, rfl, hret⟩ := C
  intro H locs ls hP hD hS hl
  subst hn
  exact lv_istore_n hx hb hd hi hl hni hlv (fun ls hl => k H locs ls hP hD hS hl)
theorem k_istore {i : Nat} {x : Int32} (C : KC cc own Ts R nL D tys A l ini RP mc ms K) (hd : decode cc pc = .ok (.istore i, 2)) (hni : i < nL) (lv' : List (Nat × Value)) (hlv : (i, Value.int x) :: lv.filter (fun q => !(q.1 == i) && !(q.1 + 1 == i && q.2.category == 2)) = lv') (n : Nat) (hn : pc + 2 = n) (k : K cs sl n lv' st ws) : K cs sl pc lv (.int x :: st) ws := by
  obtain ⟨p, e, s, m, args, below, meth, c, Q, ⟨hx, hb, hml, hown, hts⟩, hK, hA, hin, hNk, rfl, hret⟩ := C
  intro H locs ls hP hD hS hl
  subst hn
  exact lv_istore hx hb hd hl hni hlv (fun ls hl => k H locs ls hP hD hS hl)
theorem k_lstore_n {k4 : Fin 4} {i : Nat} {x : Int64} (C : KC cc own Ts R nL D tys A l ini RP mc ms K) (hd : decode cc pc = .ok (.lstore_n k4, 1)) (hi : (k4 : Nat) = i) (hni : i + 1 < nL) (lv' : List (Nat × Value)) (hlv : (i, Value.long x) :: lv.filter (fun q => !(q.1 == i) && (!(q.1 == i + 1) && !(q.1 + 1 == i && q.2.category == 2))) = lv') (n : Nat) (hn : pc + 1 = n) (k : K cs sl n lv' st ws) : K cs sl pc lv (.long x :: st) ws := by
  obtain ⟨p, e, s, m, args, below, meth, c, Q, ⟨hx, hb, hml, hown, hts⟩, hK, hA, hin, hNk, rfl, hret⟩ := C
  intro H locs ls hP hD hS hl
  subst hn
  exact lv_lstore_n hx hb hd hi hl hni hlv (fun ls hl => k H locs ls hP hD hS hl)
theorem k_lstore {i : Nat} {x : Int64} (C : KC cc own Ts R nL D tys A l ini RP mc ms K) (hd : decode cc pc = .ok (.lstore i, 2)) (hni : i + 1 < nL) (lv' : List (Nat × Value)) (hlv : (i, Value.long x) :: lv.filter (fun q => !(q.1 == i) && (!(q.1 == i + 1) && !(q.1 + 1 == i && q.2.category == 2))) = lv') (n : Nat) (hn : pc + 2 = n) (k : K cs sl n lv' st ws) : K cs sl pc lv (.long x :: st) ws := by
  obtain ⟨p, e, s, m, args, below, meth, c, Q, ⟨hx, hb, hml, hown, hts⟩, hK, hA, hin, hNk, rfl, hret⟩ := C
  intro H locs ls hP hD hS hl
  subst hn
  exact lv_lstore hx hb hd hl hni hlv (fun ls hl => k H locs ls hP hD hS hl)
theorem k_astore_n {k4 : Fin 4} {i : Nat} {x : Nat} (C : KC cc own Ts R nL D tys A l ini RP mc ms K) (hd : decode cc pc = .ok (.astore_n k4, 1)) (hi : (k4 : Nat) = i) (hni : i < nL) (lv' : List (Nat × Value)) (hlv : (i, Value.ref x) :: lv.filter (fun q => !(q.1 == i) && !(q.1 + 1 == i && q.2.category == 2)) = lv') (n : Nat) (hn : pc + 1 = n) (k : K cs sl n lv' st ws) : K cs sl pc lv (.ref x :: st) ws := by
  obtain ⟨p, e, s, m, args, below, meth, c, Q, ⟨hx, hb, hml, hown, hts⟩, hK, hA, hin, hNk, rfl, hret⟩ := C
  intro H locs ls hP hD hS hl
  subst hn
  exact lv_astore_n hx hb hd hi hl hni hlv (fun ls hl => k H locs ls hP hD hS hl)
theorem k_astore {i : Nat} {x : Nat} (C : KC cc own Ts R nL D tys A l ini RP mc ms K) (hd : decode cc pc = .ok (.astore i, 2)) (hni : i < nL) (lv' : List (Nat × Value)) (hlv : (i, Value.ref x) :: lv.filter (fun q => !(q.1 == i) && !(q.1 + 1 == i && q.2.category == 2)) = lv') (n : Nat) (hn : pc + 2 = n) (k : K cs sl n lv' st ws) : K cs sl pc lv (.ref x :: st) ws := by
  obtain ⟨p, e, s, m, args, below, meth, c, Q, ⟨hx, hb, hml, hown, hts⟩, hK, hA, hin, hNk, rfl, hret⟩ := C
  intro H locs ls hP hD hS hl
  subst hn
  exact lv_astore hx hb hd hl hni hlv (fun ls hl => k H locs ls hP hD hS hl)
theorem k_iinc {i j : Nat} {n0 x : Int} (C : KC cc own Ts R nL D tys A l ini RP mc ms K) (hd : decode cc pc = .ok (.iinc i n0, 3)) (hj : lv[j]? = some (i, .int (iI x))) (hni : i < nL) (lv' : List (Nat × Value)) (hlv : (i, Value.int (iI (x + n0))) :: lv.filter (fun q => !(q.1 == i) && !(q.1 + 1 == i && q.2.category == 2)) = lv') (n : Nat) (hn : pc + 3 = n) (k : K cs sl n lv' st ws) : K cs sl pc lv st ws := by
  obtain ⟨p, e, s, m, args, below, meth, c, Q, ⟨hx, hb, hml, hown, hts⟩, hK, hA, hin, hNk, rfl, hret⟩ := C
  intro H locs ls hP hD hS hl
  subst hn
  exact lv_iinc (k := j) hx hb hd hl hj (iI_add x n0) hni hlv (fun ls hl => k H locs ls hP hD hS hl)
theorem k_iadd {x y : Int} (C : KC cc own Ts R nL D tys A l ini RP mc ms K) (hd : decode cc pc = .ok (.iadd, 1)) (n : Nat) (hn : pc + 1 = n) (k : K cs sl n lv (.int (iI (x + y)) :: st) ws) : K cs sl pc lv (.int (iI y) :: .int (iI x) :: st) ws := by
  obtain ⟨p, e, s, m, args, below, meth, c, Q, ⟨hx, hb, hml, hown, hts⟩, hK, hA, hin, hNk, rfl, hret⟩ := C
  intro H locs ls hP hD hS hl
  subst hn
  refine lv_iadd hx hb hd ?_
  rw [iI_add]; exact k H locs ls hP hD hS hl
theorem k_isub {x y : Int} (C : KC cc own Ts R nL D tys A l ini RP mc ms K) (hd : decode cc pc = .ok (.isub, 1)) (n : Nat) (hn : pc + 1 = n) (k : K cs sl n lv (.int (iI (x - y)) :: st) ws) : K cs sl pc lv (.int (iI y) :: .int (iI x) :: st) ws := by
  obtain ⟨p, e, s, m, args, below, meth, c, Q, ⟨hx, hb, hml, hown, hts⟩, hK, hA, hin, hNk, rfl, hret⟩ := C
  intro H locs ls hP hD hS hl
  subst hn
  refine lv_isub hx hb hd ?_
  rw [iI_sub]; exact k H locs ls hP hD hS hl
theorem k_imul {x y : Int} (C : KC cc own Ts R nL D tys A l ini RP mc ms K) (hd : decode cc pc = .ok (.imul, 1)) (n : Nat) (hn : pc + 1 = n) (k : K cs sl n lv (.int (iI (x * y)) :: st) ws) : K cs sl pc lv (.int (iI y) :: .int (iI x) :: st) ws := by
  obtain ⟨p, e, s, m, args, below, meth, c, Q, ⟨hx, hb, hml, hown, hts⟩, hK, hA, hin, hNk, rfl, hret⟩ := C
  intro H locs ls hP hD hS hl
  subst hn
  refine lv_imul hx hb hd ?_
  rw [iI_mul]; exact k H locs ls hP hD hS hl
theorem k_ladd {x y : Int} (C : KC cc own Ts R nL D tys A l ini RP mc ms K) (hd : decode cc pc = .ok (.ladd, 1)) (n : Nat) (hn : pc + 1 = n) (k : K cs sl n lv (.long (lL (x + y)) :: st) ws) : K cs sl pc lv (.long (lL y) :: .long (lL x) :: st) ws := by
  obtain ⟨p, e, s, m, args, below, meth, c, Q, ⟨hx, hb, hml, hown, hts⟩, hK, hA, hin, hNk, rfl, hret⟩ := C
  intro H locs ls hP hD hS hl
  subst hn
  refine lv_ladd hx hb hd ?_
  rw [lL_add]; exact k H locs ls hP hD hS hl
theorem k_lsub {x y : Int} (C : KC cc own Ts R nL D tys A l ini RP mc ms K) (hd : decode cc pc = .ok (.lsub, 1)) (n : Nat) (hn : pc + 1 = n) (k : K cs sl n lv (.long (lL (x - y)) :: st) ws) : K cs sl pc lv (.long (lL y) :: .long (lL x) :: st) ws := by
  obtain ⟨p, e, s, m, args, below, meth, c, Q, ⟨hx, hb, hml, hown, hts⟩, hK, hA, hin, hNk, rfl, hret⟩ := C
  intro H locs ls hP hD hS hl
  subst hn
  refine lv_lsub hx hb hd ?_
  rw [lL_sub]; exact k H locs ls hP hD hS hl
theorem k_lmul {x y : Int} (C : KC cc own Ts R nL D tys A l ini RP mc ms K) (hd : decode cc pc = .ok (.lmul, 1)) (n : Nat) (hn : pc + 1 = n) (k : K cs sl n lv (.long (lL (x * y)) :: st) ws) : K cs sl pc lv (.long (lL y) :: .long (lL x) :: st) ws := by
  obtain ⟨p, e, s, m, args, below, meth, c, Q, ⟨hx, hb, hml, hown, hts⟩, hK, hA, hin, hNk, rfl, hret⟩ := C
  intro H locs ls hP hD hS hl
  subst hn
  refine lv_lmul hx hb hd ?_
  rw [lL_mul]; exact k H locs ls hP hD hS hl
theorem k_ineg {x : Int} (C : KC cc own Ts R nL D tys A l ini RP mc ms K) (hd : decode cc pc = .ok (.ineg, 1)) (n : Nat) (hn : pc + 1 = n) (k : K cs sl n lv (.int (iI (-x)) :: st) ws) : K cs sl pc lv (.int (iI x) :: st) ws := by
  obtain ⟨p, e, s, m, args, below, meth, c, Q, ⟨hx, hb, hml, hown, hts⟩, hK, hA, hin, hNk, rfl, hret⟩ := C
  intro H locs ls hP hD hS hl
  subst hn
  refine lv_ineg hx hb hd ?_
  rw [iI_neg]; exact k H locs ls hP hD hS hl
theorem k_idiv {x y : Int} (C : KC cc own Ts R nL D tys A l ini RP mc ms K) (hd : decode cc pc = .ok (.idiv, 1)) (hr : rI x ∧ rI y ∧ ¬ y = 0) (n : Nat) (hn : pc + 1 = n) (k : K cs sl n lv (.int (iI (x.tdiv y)) :: st) ws) : K cs sl pc lv (.int (iI y) :: .int (iI x) :: st) ws := by
  obtain ⟨p, e, s, m, args, below, meth, c, Q, ⟨hx, hb, hml, hown, hts⟩, hK, hA, hin, hNk, rfl, hret⟩ := C
  intro H locs ls hP hD hS hl
  subst hn
  refine lv_idiv hx hb hd (by rw [iI_0, iI_eq hr.2.1 rI_0]; exact hr.2.2) ?_
  rw [iI_div hr.1 hr.2.1]; exact k H locs ls hP hD hS hl
theorem k_irem {x y : Int} (C : KC cc own Ts R nL D tys A l ini RP mc ms K) (hd : decode cc pc = .ok (.irem, 1)) (hr : rI x ∧ rI y ∧ ¬ y = 0) (n : Nat) (hn : pc + 1 = n) (k : K cs sl n lv (.int (iI (x.tmod y)) :: st) ws) : K cs sl pc lv (.int (iI y) :: .int (iI x) :: st) ws := by
  obtain ⟨p, e, s, m, args, below, meth, c, Q, ⟨hx, hb, hml, hown, hts⟩, hK, hA, hin, hNk, rfl, hret⟩ := C
  intro H locs ls hP hD hS hl
  subst hn
  refine lv_irem hx hb hd (by rw [iI_0, iI_eq hr.2.1 rI_0]; exact hr.2.2) ?_
  rw [iI_rem hr.1 hr.2.1]; exact k H locs ls hP hD hS hl
theorem k_ldiv {x y : Int} (C : KC cc own Ts R nL D tys A l ini RP mc ms K) (hd : decode cc pc = .ok (.ldiv, 1)) (hr : rL x ∧ rL y ∧ ¬ y = 0) (n : Nat) (hn : pc + 1 = n) (k : K cs sl n lv (.long (lL (x.tdiv y)) :: st) ws) : K cs sl pc lv (.long (lL y) :: .long (lL x) :: st) ws := by
  obtain ⟨p, e, s, m, args, below, meth, c, Q, ⟨hx, hb, hml, hown, hts⟩, hK, hA, hin, hNk, rfl, hret⟩ := C
  intro H locs ls hP hD hS hl
  subst hn
  refine lv_ldiv hx hb hd (by rw [lL_0, lL_eq hr.2.1 rL_0]; exact hr.2.2) ?_
  rw [lL_div hr.1 hr.2.1]; exact k H locs ls hP hD hS hl
theorem k_lrem {x y : Int} (C : KC cc own Ts R nL D tys A l ini RP mc ms K) (hd : decode cc pc = .ok (.lrem, 1)) (hr : rL x ∧ rL y ∧ ¬ y = 0) (n : Nat) (hn : pc + 1 = n) (k : K cs sl n lv (.long (lL (x.tmod y)) :: st) ws) : K cs sl pc lv (.long (lL y) :: .long (lL x) :: st) ws := by
  obtain ⟨p, e, s, m, args, below, meth, c, Q, ⟨hx, hb, hml, hown, hts⟩, hK, hA, hin, hNk, rfl, hret⟩ := C
  intro H locs ls hP hD hS hl
  subst hn
  refine lv_lrem hx hb hd (by rw [lL_0, lL_eq hr.2.1 rL_0]; exact hr.2.2) ?_
  rw [lL_rem hr.1 hr.2.1]; exact k H locs ls hP hD hS hl
theorem k_iand {x y : Int} (C : KC cc own Ts R nL D tys A l ini RP mc ms K) (hd : decode cc pc = .ok (.iand, 1)) (n : Nat) (hn : pc + 1 = n) (k : K cs sl n lv (.int (iI (iand x y)) :: st) ws) : K cs sl pc lv (.int (iI y) :: .int (iI x) :: st) ws := by
  obtain ⟨p, e, s, m, args, below, meth, c, Q, ⟨hx, hb, hml, hown, hts⟩, hK, hA, hin, hNk, rfl, hret⟩ := C
  intro H locs ls hP hD hS hl
  subst hn
  refine lv_iand hx hb hd ?_
  rw [show iI x &&& iI y = iI (iand x y) from (iI_of _).symm]; exact k H locs ls hP hD hS hl
theorem k_ior {x y : Int} (C : KC cc own Ts R nL D tys A l ini RP mc ms K) (hd : decode cc pc = .ok (.ior, 1)) (n : Nat) (hn : pc + 1 = n) (k : K cs sl n lv (.int (iI (ior x y)) :: st) ws) : K cs sl pc lv (.int (iI y) :: .int (iI x) :: st) ws := by
  obtain ⟨p, e, s, m, args, below, meth, c, Q, ⟨hx, hb, hml, hown, hts⟩, hK, hA, hin, hNk, rfl, hret⟩ := C
  intro H locs ls hP hD hS hl
  subst hn
  refine lv_ior hx hb hd ?_
  rw [show iI x ||| iI y = iI (ior x y) from (iI_of _).symm]; exact k H locs ls hP hD hS hl
theorem k_ixor {x y : Int} (C : KC cc own Ts R nL D tys A l ini RP mc ms K) (hd : decode cc pc = .ok (.ixor, 1)) (n : Nat) (hn : pc + 1 = n) (k : K cs sl n lv (.int (iI (ixor x y)) :: st) ws) : K cs sl pc lv (.int (iI y) :: .int (iI x) :: st) ws := by
  obtain ⟨p, e, s, m, args, below, meth, c, Q, ⟨hx, hb, hml, hown, hts⟩, hK, hA, hin, hNk, rfl, hret⟩ := C
  intro H locs ls hP hD hS hl
  subst hn
  refine lv_ixor hx hb hd ?_
  rw [show iI x ^^^ iI y = iI (ixor x y) from (iI_of _).symm]; exact k H locs ls hP hD hS hl
theorem k_ishl {x y : Int} (C : KC cc own Ts R nL D tys A l ini RP mc ms K) (hd : decode cc pc = .ok (.ishl, 1)) (n : Nat) (hn : pc + 1 = n) (k : K cs sl n lv (.int (iI (ishl x y)) :: st) ws) : K cs sl pc lv (.int (iI y) :: .int (iI x) :: st) ws := by
  obtain ⟨p, e, s, m, args, below, meth, c, Q, ⟨hx, hb, hml, hown, hts⟩, hK, hA, hin, hNk, rfl, hret⟩ := C
  intro H locs ls hP hD hS hl
  subst hn
  refine lv_ishl hx hb hd ?_
  rw [show iI x <<< (iI y &&& 31) = iI (ishl x y) from (iI_of _).symm]; exact k H locs ls hP hD hS hl
theorem k_ishr {x y : Int} (C : KC cc own Ts R nL D tys A l ini RP mc ms K) (hd : decode cc pc = .ok (.ishr, 1)) (n : Nat) (hn : pc + 1 = n) (k : K cs sl n lv (.int (iI (ishr x y)) :: st) ws) : K cs sl pc lv (.int (iI y) :: .int (iI x) :: st) ws := by
  obtain ⟨p, e, s, m, args, below, meth, c, Q, ⟨hx, hb, hml, hown, hts⟩, hK, hA, hin, hNk, rfl, hret⟩ := C
  intro H locs ls hP hD hS hl
  subst hn
  refine lv_ishr hx hb hd ?_
  rw [show iI x >>> (iI y &&& 31) = iI (ishr x y) from (iI_of _).symm]; exact k H locs ls hP hD hS hl
theorem k_i2l {x : Int} (C : KC cc own Ts R nL D tys A l ini RP mc ms K) (hd : decode cc pc = .ok (.i2l, 1)) (hr : rI x) (n : Nat) (hn : pc + 1 = n) (k : K cs sl n lv (.long (lL x) :: st) ws) : K cs sl pc lv (.int (iI x) :: st) ws := by
  obtain ⟨p, e, s, m, args, below, meth, c, Q, ⟨hx, hb, hml, hown, hts⟩, hK, hA, hin, hNk, rfl, hret⟩ := C
  intro H locs ls hP hD hS hl
  subst hn
  exact lv_i2l (v := lL x) hx hb hd (iI_long hr) (k H locs ls hP hD hS hl)
theorem k_lcmp {x y : Int} (C : KC cc own Ts R nL D tys A l ini RP mc ms K) (hd : decode cc pc = .ok (.lcmp, 1)) (hr : rL x ∧ rL y) (n : Nat) (hn : pc + 1 = n) (k : K cs sl n lv (.int (iI (lc x y)) :: st) ws) : K cs sl pc lv (.long (lL y) :: .long (lL x) :: st) ws := by
  obtain ⟨p, e, s, m, args, below, meth, c, Q, ⟨hx, hb, hml, hown, hts⟩, hK, hA, hin, hNk, rfl, hret⟩ := C
  intro H locs ls hP hD hS hl
  subst hn
  refine W.lcmp hx hb hd ?_
  rw [iI_lc hr.1 hr.2]; exact k H locs ls hP hD hS hl
theorem k_dup {va : Value} (C : KC cc own Ts R nL D tys A l ini RP mc ms K) (hd : decode cc pc = .ok (.dup, 1)) (hv : va.category = 1) (n : Nat) (hn : pc + 1 = n) (k : K cs sl n lv (va :: va :: st) ws) : K cs sl pc lv (va :: st) ws := by
  obtain ⟨p, e, s, m, args, below, meth, c, Q, ⟨hx, hb, hml, hown, hts⟩, hK, hA, hin, hNk, rfl, hret⟩ := C
  intro H locs ls hP hD hS hl
  subst hn
  exact lv_dup hx hb hd hv (k H locs ls hP hD hS hl)
theorem k_iushr {x y : Int} (C : KC cc own Ts R nL D tys A l ini RP mc ms K) (hd : decode cc pc = .ok (.iushr, 1)) (n : Nat) (hn : pc + 1 = n) (k : K cs sl n lv (.int (iI (iushr x y)) :: st) ws) : K cs sl pc lv (.int (iI y) :: .int (iI x) :: st) ws := by
  obtain ⟨p, e, s, m, args, below, meth, c, Q, ⟨hx, hb, hml, hown, hts⟩, hK, hA, hin, hNk, rfl, hret⟩ := C
  intro H locs ls hP hD hS hl
  subst hn
  exact lv_iushr (v := iI (iushr x y)) hx hb hd (iI_of _).symm (k H locs ls hP hD hS hl)
theorem k_icmp_ge {x y : Int} {off : Int} (C : KC cc own Ts R nL D tys A l ini RP mc ms K) (hd : decode cc pc = .ok (.if_icmp .ge off, 3)) (hr : rI x ∧ rI y) (tgt n : Nat) (ht : (pc : Int) + off = (tgt : Int)) (hn : pc + 3 = n) (kt : y ≤ x → K cs sl tgt lv st ws) (kf : ¬ (y ≤ x) → K cs sl n lv st ws) : K cs sl pc lv (.int (iI y) :: .int (iI x) :: st) ws := by
  obtain ⟨p, e, s, m, args, below, meth, c, Q, ⟨hx, hb, hml, hown, hts⟩, hK, hA, hin, hNk, rfl, hret⟩ := C
  intro H locs ls hP hD hS hl
  subst hn
  exact lv_icmp_ge hx hb hd ht (fun h => kt ((iI_le hr.2 hr.1).mp h) H locs ls hP hD hS hl) (fun h => kf (fun q => h ((iI_le hr.2 hr.1).mpr q)) H locs ls hP hD hS hl)
theorem k_icmp_lt {x y : Int} {off : Int} (C : KC cc own Ts R nL D tys A l ini RP mc ms K) (hd : decode cc pc = .ok (.if_icmp .lt off, 3)) (hr : rI x ∧ rI y) (tgt n : Nat) (ht : (pc : Int) + off = (tgt : Int)) (hn : pc + 3 = n) (kt : x < y → K cs sl tgt lv st ws) (kf : ¬ (x < y) → K cs sl n lv st ws) : K cs sl pc lv (.int (iI y) :: .int (iI x) :: st) ws := by
  obtain ⟨p, e, s, m, args, below, meth, c, Q, ⟨hx, hb, hml, hown, hts⟩, hK, hA, hin, hNk, rfl, hret⟩ := C
  intro H locs ls hP hD hS hl
  subst hn
  exact lv_icmp_lt hx hb hd ht (fun h => kt ((iI_lt hr.1 hr.2).mp h) H locs ls hP hD hS hl) (fun h => kf (fun q => h ((iI_lt hr.1 hr.2).mpr q)) H locs ls hP hD hS hl)
theorem k_icmp_le {x y : Int} {off : Int} (C : KC cc own Ts R nL D tys A l ini RP mc ms K) (hd : decode cc pc = .ok (.if_icmp .le off, 3)) (hr : rI x ∧ rI y) (tgt n : Nat) (ht : (pc : Int) + off = (tgt : Int)) (hn : pc + 3 = n) (kt : x ≤ y → K cs sl tgt lv st ws) (kf : ¬ (x ≤ y) → K cs sl n lv st ws) : K cs sl pc lv (.int (iI y) :: .int (iI x) :: st) ws := by
  obtain ⟨p, e, s, m, args, below, meth, c, Q, ⟨hx, hb, hml, hown, hts⟩, hK, hA, hin, hNk, rfl, hret⟩ := C
  intro H locs ls hP hD hS hl
  subst hn
  exact lv_icmp_le hx hb hd ht (fun h => kt ((iI_le hr.1 hr.2).mp h) H locs ls hP hD hS hl) (fun h => kf (fun q => h ((iI_le hr.1 hr.2).mpr q)) H locs ls hP hD hS hl)
theorem k_icmp_gt {x y : Int} {off : Int} (C : KC cc own Ts R nL D tys A l ini RP mc ms K) (hd : decode cc pc = .ok (.if_icmp .gt off, 3)) (hr : rI x ∧ rI y) (tgt n : Nat) (ht : (pc : Int) + off = (tgt : Int)) (hn : pc + 3 = n) (kt : y < x → K cs sl tgt lv st ws) (kf : ¬ (y < x) → K cs sl n lv st ws) : K cs sl pc lv (.int (iI y) :: .int (iI x) :: st) ws := by
  obtain ⟨p, e, s, m, args, below, meth, c, Q, ⟨hx, hb, hml, hown, hts⟩, hK, hA, hin, hNk, rfl, hret⟩ := C
  intro H locs ls hP hD hS hl
  subst hn
  exact lv_icmp_gt hx hb hd ht (fun h => kt ((iI_lt hr.2 hr.1).mp h) H locs ls hP hD hS hl) (fun h => kf (fun q => h ((iI_lt hr.2 hr.1).mpr q)) H locs ls hP hD hS hl)
theorem k_icmp_eq {x y : Int} {off : Int} (C : KC cc own Ts R nL D tys A l ini RP mc ms K) (hd : decode cc pc = .ok (.if_icmp .eq off, 3)) (hr : rI x ∧ rI y) (tgt n : Nat) (ht : (pc : Int) + off = (tgt : Int)) (hn : pc + 3 = n) (kt : x = y → K cs sl tgt lv st ws) (kf : ¬ (x = y) → K cs sl n lv st ws) : K cs sl pc lv (.int (iI y) :: .int (iI x) :: st) ws := by
  obtain ⟨p, e, s, m, args, below, meth, c, Q, ⟨hx, hb, hml, hown, hts⟩, hK, hA, hin, hNk, rfl, hret⟩ := C
  intro H locs ls hP hD hS hl
  subst hn
  exact lv_icmp_eq hx hb hd ht (fun h => kt ((iI_eq hr.1 hr.2).mp h) H locs ls hP hD hS hl) (fun h => kf (fun q => h ((iI_eq hr.1 hr.2).mpr q)) H locs ls hP hD hS hl)
theorem k_icmp_ne {x y : Int} {off : Int} (C : KC cc own Ts R nL D tys A l ini RP mc ms K) (hd : decode cc pc = .ok (.if_icmp .ne off, 3)) (hr : rI x ∧ rI y) (tgt n : Nat) (ht : (pc : Int) + off = (tgt : Int)) (hn : pc + 3 = n) (kt : ¬ x = y → K cs sl tgt lv st ws) (kf : ¬ (¬ x = y) → K cs sl n lv st ws) : K cs sl pc lv (.int (iI y) :: .int (iI x) :: st) ws := by
  obtain ⟨p, e, s, m, args, below, meth, c, Q, ⟨hx, hb, hml, hown, hts⟩, hK, hA, hin, hNk, rfl, hret⟩ := C
  intro H locs ls hP hD hS hl
  subst hn
  exact lv_icmp_ne hx hb hd ht (fun h => kt (fun q => h ((iI_eq hr.1 hr.2).mpr q)) H locs ls hP hD hS hl) (fun h => kf (fun q => q ((iI_eq hr.1 hr.2).mp h)) H locs ls hP hD hS hl)
theorem k_if_ge {x : Int} {off : Int} (C : KC cc own Ts R nL D tys A l ini RP mc ms K) (hd : decode cc pc = .ok (.ifCond .ge off, 3)) (hr : rI x) (tgt n : Nat) (ht : (pc : Int) + off = (tgt : Int)) (hn : pc + 3 = n) (kt : 0 ≤ x → K cs sl tgt lv st ws) (kf : ¬ (0 ≤ x) → K cs sl n lv st ws) : K cs sl pc lv (.int (iI x) :: st) ws := by
  obtain ⟨p, e, s, m, args, below, meth, c, Q, ⟨hx, hb, hml, hown, hts⟩, hK, hA, hin, hNk, rfl, hret⟩ := C
  intro H locs ls hP hD hS hl
  subst hn
  exact lv_if_ge hx hb hd ht (fun h => kt ((iI_le rI_0 hr).mp h) H locs ls hP hD hS hl) (fun h => kf (fun q => h ((iI_le rI_0 hr).mpr q)) H locs ls hP hD hS hl)
theorem k_if_lt {x : Int} {off : Int} (C : KC cc own Ts R nL D tys A l ini RP mc ms K) (hd : decode cc pc = .ok (.ifCond .lt off, 3)) (hr : rI x) (tgt n : Nat) (ht : (pc : Int) + off = (tgt : Int)) (hn : pc + 3 = n) (kt : x < 0 → K cs sl tgt lv st ws) (kf : ¬ (x < 0) → K cs sl n lv st ws) : K cs sl pc lv (.int (iI x) :: st) ws := by
  obtain ⟨p, e, s, m, args, below, meth, c, Q, ⟨hx, hb, hml, hown, hts⟩, hK, hA, hin, hNk, rfl, hret⟩ := C
  intro H locs ls hP hD hS hl
  subst hn
  exact lv_if_lt hx hb hd ht (fun h => kt ((iI_lt hr rI_0).mp h) H locs ls hP hD hS hl) (fun h => kf (fun q => h ((iI_lt hr rI_0).mpr q)) H locs ls hP hD hS hl)
theorem k_if_le {x : Int} {off : Int} (C : KC cc own Ts R nL D tys A l ini RP mc ms K) (hd : decode cc pc = .ok (.ifCond .le off, 3)) (hr : rI x) (tgt n : Nat) (ht : (pc : Int) + off = (tgt : Int)) (hn : pc + 3 = n) (kt : x ≤ 0 → K cs sl tgt lv st ws) (kf : ¬ (x ≤ 0) → K cs sl n lv st ws) : K cs sl pc lv (.int (iI x) :: st) ws := by
  obtain ⟨p, e, s, m, args, below, meth, c, Q, ⟨hx, hb, hml, hown, hts⟩, hK, hA, hin, hNk, rfl, hret⟩ := C
  intro H locs ls hP hD hS hl
  subst hn
  exact lv_if_le hx hb hd ht (fun h => kt ((iI_le hr rI_0).mp h) H locs ls hP hD hS hl) (fun h => kf (fun q => h ((iI_le hr rI_0).mpr q)) H locs ls hP hD hS hl)
theorem k_if_gt {x : Int} {off : Int} (C : KC cc own Ts R nL D tys A l ini RP mc ms K) (hd : decode cc pc = .ok (.ifCond .gt off, 3)) (hr : rI x) (tgt n : Nat) (ht : (pc : Int) + off = (tgt : Int)) (hn : pc + 3 = n) (kt : 0 < x → K cs sl tgt lv st ws) (kf : ¬ (0 < x) → K cs sl n lv st ws) : K cs sl pc lv (.int (iI x) :: st) ws := by
  obtain ⟨p, e, s, m, args, below, meth, c, Q, ⟨hx, hb, hml, hown, hts⟩, hK, hA, hin, hNk, rfl, hret⟩ := C
  intro H locs ls hP hD hS hl
  subst hn
  exact lv_if_gt hx hb hd ht (fun h => kt ((iI_lt rI_0 hr).mp h) H locs ls hP hD hS hl) (fun h => kf (fun q => h ((iI_lt rI_0 hr).mpr q)) H locs ls hP hD hS hl)
theorem k_if_eq {x : Int} {off : Int} (C : KC cc own Ts R nL D tys A l ini RP mc ms K) (hd : decode cc pc = .ok (.ifCond .eq off, 3)) (hr : rI x) (tgt n : Nat) (ht : (pc : Int) + off = (tgt : Int)) (hn : pc + 3 = n) (kt : x = 0 → K cs sl tgt lv st ws) (kf : ¬ (x = 0) → K cs sl n lv st ws) : K cs sl pc lv (.int (iI x) :: st) ws := by
  obtain ⟨p, e, s, m, args, below, meth, c, Q, ⟨hx, hb, hml, hown, hts⟩, hK, hA, hin, hNk, rfl, hret⟩ := C
  intro H locs ls hP hD hS hl
  subst hn
  exact lv_if_eq hx hb hd ht (fun h => kt ((iI_eq hr rI_0).mp h) H locs ls hP hD hS hl) (fun h => kf (fun q => h ((iI_eq hr rI_0).mpr q)) H locs ls hP hD hS hl)
theorem k_if_ne {x : Int} {off : Int} (C : KC cc own Ts R nL D tys A l ini RP mc ms K) (hd : decode cc pc = .ok (.ifCond .ne off, 3)) (hr : rI x) (tgt n : Nat) (ht : (pc : Int) + off = (tgt : Int)) (hn : pc + 3 = n) (kt : ¬ x = 0 → K cs sl tgt lv st ws) (kf : ¬ (¬ x = 0) → K cs sl n lv st ws) : K cs sl pc lv (.int (iI x) :: st) ws := by
  obtain ⟨p, e, s, m, args, below, meth, c, Q, ⟨hx, hb, hml, hown, hts⟩, hK, hA, hin, hNk, rfl, hret⟩ := C
  intro H locs ls hP hD hS hl
  subst hn
  exact lv_if_ne hx hb hd ht (fun h => kt (fun q => h ((iI_eq hr rI_0).mpr q)) H locs ls hP hD hS hl) (fun h => kf (fun q => q ((iI_eq hr rI_0).mp h)) H locs ls hP hD hS hl)
theorem k_lcmp_ge {x y : Int} {off : Int} (C : KC cc own Ts R nL D tys A l ini RP mc ms K) (hd0 : decode cc pc = .ok (.lcmp, 1)) (hd : decode cc (pc + 1) = .ok (.ifCond .ge off, 3)) (hr : rL x ∧ rL y) (tgt n : Nat) (ht : ((pc + 1 : Nat) : Int) + off = (tgt : Int)) (hn : pc + 4 = n) (kt : y ≤ x → K cs sl tgt lv st ws) (kf : ¬ (y ≤ x) → K cs sl n lv st ws) : K cs sl pc lv (.long (lL y) :: .long (lL x) :: st) ws :=
  k_lcmp C hd0 hr (pc + 1) rfl (k_if_ge C hd (lc_r x y) tgt n ht (by omega) (fun h => kt ((lc_ge x y).mp h)) (fun h => kf (fun q => h ((lc_ge x y).mpr q))))
theorem k_lcmp_lt {x y : Int} {off : Int} (C : KC cc own Ts R nL D tys A l ini RP mc ms K) (hd0 : decode cc pc = .ok (.lcmp, 1)) (hd : decode cc (pc + 1) = .ok (.ifCond .lt off, 3)) (hr : rL x ∧ rL y) (tgt n : Nat) (ht : ((pc + 1 : Nat) : Int) + off = (tgt : Int)) (hn : pc + 4 = n) (kt : x < y → K cs sl tgt lv st ws) (kf : ¬ (x < y) → K cs sl n lv st ws) : K cs sl pc lv (.long (lL y) :: .long (lL x) :: st) ws :=
  k_lcmp C hd0 hr (pc + 1) rfl (k_if_lt C hd (lc_r x y) tgt n ht (by omega) (fun h => kt ((lc_lt x y).mp h)) (fun h => kf (fun q => h ((lc_lt x y).mpr q))))
theorem k_lcmp_le {x y : Int} {off : Int} (C : KC cc own Ts R nL D tys A l ini RP mc ms K) (hd0 : decode cc pc = .ok (.lcmp, 1)) (hd : decode cc (pc + 1) = .ok (.ifCond .le off, 3)) (hr : rL x ∧ rL y) (tgt n : Nat) (ht : ((pc + 1 : Nat) : Int) + off = (tgt : Int)) (hn : pc + 4 = n) (kt : x ≤ y → K cs sl tgt lv st ws) (kf : ¬ (x ≤ y) → K cs sl n lv st ws) : K cs sl pc lv (.long (lL y) :: .long (lL x) :: st) ws :=
  k_lcmp C hd0 hr (pc + 1) rfl (k_if_le C hd (lc_r x y) tgt n ht (by omega) (fun h => kt ((lc_le x y).mp h)) (fun h => kf (fun q => h ((lc_le x y).mpr q))))
theorem k_lcmp_gt {x y : Int} {off : Int} (C : KC cc own Ts R nL D tys A l ini RP mc ms K) (hd0 : decode cc pc = .ok (.lcmp, 1)) (hd : decode cc (pc + 1) = .ok (.ifCond .gt off, 3)) (hr : rL x ∧ rL y) (tgt n : Nat) (ht : ((pc + 1 : Nat) : Int) + off = (tgt : Int)) (hn : pc + 4 = n) (kt : y < x → K cs sl tgt lv st ws) (kf : ¬ (y < x) → K cs sl n lv st ws) : K cs sl pc lv (.long (lL y) :: .long (lL x) :: st) ws :=
  k_lcmp C hd0 hr (pc + 1) rfl (k_if_gt C hd (lc_r x y) tgt n ht (by omega) (fun h => kt ((lc_gt x y).mp h)) (fun h => kf (fun q => h ((lc_gt x y).mpr q))))
theorem k_lcmp_eq {x y : Int} {off : Int} (C : KC cc own Ts R nL D tys A l ini RP mc ms K) (hd0 : decode cc pc = .ok (.lcmp, 1)) (hd : decode cc (pc + 1) = .ok (.ifCond .eq off, 3)) (hr : rL x ∧ rL y) (tgt n : Nat) (ht : ((pc + 1 : Nat) : Int) + off = (tgt : Int)) (hn : pc + 4 = n) (kt : x = y → K cs sl tgt lv st ws) (kf : ¬ (x = y) → K cs sl n lv st ws) : K cs sl pc lv (.long (lL y) :: .long (lL x) :: st) ws :=
  k_lcmp C hd0 hr (pc + 1) rfl (k_if_eq C hd (lc_r x y) tgt n ht (by omega) (fun h => kt ((lc_eq x y).mp h)) (fun h => kf (fun q => h ((lc_eq x y).mpr q))))
theorem k_lcmp_ne {x y : Int} {off : Int} (C : KC cc own Ts R nL D tys A l ini RP mc ms K) (hd0 : decode cc pc = .ok (.lcmp, 1)) (hd : decode cc (pc + 1) = .ok (.ifCond .ne off, 3)) (hr : rL x ∧ rL y) (tgt n : Nat) (ht : ((pc + 1 : Nat) : Int) + off = (tgt : Int)) (hn : pc + 4 = n) (kt : ¬ x = y → K cs sl tgt lv st ws) (kf : ¬ (¬ x = y) → K cs sl n lv st ws) : K cs sl pc lv (.long (lL y) :: .long (lL x) :: st) ws :=
  k_lcmp C hd0 hr (pc + 1) rfl (k_if_ne C hd (lc_r x y) tgt n ht (by omega) (fun h => kt (fun q => h ((lc_eq x y).mpr q))) (fun h => kf (fun q => h (fun z => q ((lc_eq x y).mp z)))))
theorem k_goto {off : Int} (C : KC cc own Ts R nL D tys A l ini RP mc ms K) (hd : decode cc pc = .ok (.goto off, 3)) (tgt : Nat) (ht : (pc : Int) + off = (tgt : Int)) (k : K cs sl tgt lv st ws) : K cs sl pc lv st ws := by
  obtain ⟨p, e, s, m, args, below, meth, c, Q, ⟨hx, hb, hml, hown, hts⟩, hK, hA, hin, hNk, rfl, hret⟩ := C
  intro H locs ls hP hD hS hl
  exact lv_goto hx hb hd ht (k H locs ls hP hD hS hl)
theorem k_ifnull {a : Nat} {off : Int} (C : KC cc own Ts R nL D tys A l ini RP mc ms K) (hd : decode cc pc = .ok (.ifnull off, 3)) (n : Nat) (hn : pc + 3 = n) (k : K cs sl n lv (st) ws) : K cs sl pc lv (.ref a :: st) ws := by
  obtain ⟨p, e, s, m, args, below, meth, c, Q, ⟨hx, hb, hml, hown, hts⟩, hK, hA, hin, hNk, rfl, hret⟩ := C
  intro H locs ls hP hD hS hl
  subst hn
  exact lv_ifnull hx hb hd (k H locs ls hP hD hS hl)
theorem k_ifnonnull {a : Nat} {off : Int} (C : KC cc own Ts R nL D tys A l ini RP mc ms K) (hd : decode cc pc = .ok (.ifnonnull off, 3)) (tgt : Nat) (ht : (pc : Int) + off = (tgt : Int)) (k : K cs sl tgt lv st ws) : K cs sl pc lv (.ref a :: st) ws := by
  obtain ⟨p, e, s, m, args, below, meth, c, Q, ⟨hx, hb, hml, hown, hts⟩, hK, hA, hin, hNk, rfl, hret⟩ := C
  intro H locs ls hP hD hS hl
  exact lv_ifnonnull hx hb hd ht (k H locs ls hP hD hS hl)
theorem k_lv (C : KC cc own Ts R nL D tys A l ini RP mc ms K) (is : List Nat) (lv' : List (Nat × Value)) (h : lv_pick lv is = lv') (k : K cs sl pc lv' st ws) : K cs sl pc lv st ws := by
  obtain ⟨p, e, s, m, args, below, meth, c, Q, ⟨hx, hb, hml, hown, hts⟩, hK, hA, hin, hNk, rfl, hret⟩ := C
  intro H locs ls hP hD hS hl
  exact k H locs ls hP hD hS (lv_sub hl is h)
theorem k_perm (C : KC cc own Ts R nL D tys A l ini RP mc ms K) (is : List Nat) (st' : List Value) (ws' : va_W) (hst : st = st') (hn : va_nd is = true) (h : is.map (fun i => ws[i]?) = ws'.map some) (k : K cs sl pc lv st' ws') : K cs sl pc lv st ws := by
  subst hst
  obtain ⟨p, e, s, m, args, below, meth, c, Q, ⟨hx, hb, hml, hown, hts⟩, hK, hA, hin, hNk, rfl, hret⟩ := C
  intro H locs ls hP hD hS hl
  refine k H locs ls (fun k q hk => ?_) (hD.sub is hn h) hS hl
  have h1 : (is.map (fun i => ws[i]?))[k]? = some (some q) := by rw [h, List.getElem?_map, hk]; rfl
  rw [List.getElem?_map] at h1
  cases hi : is[k]? with
  | none => rw [hi] at h1; cases h1
  | some i => rw [hi] at h1; exact hP i q (Option.some.inj h1)
theorem k_st (st' : List Value) (ws' : va_W) (h : st = st') (h2 : ws = ws') (k : K cs sl pc lv st' ws') : K cs sl pc lv st ws := by subst h; subst h2; exact k
theorem k_wide (a b : Nat) (C : KC cc own Ts R nL D tys A l ini RP mc ms K) (h1 : cs ≤ a) (h2 : sl ≤ b) (k : K a b pc lv st ws) : K cs sl pc lv st ws := by
  obtain ⟨p, e, s, m, args, below, meth, c, Q, ⟨hx, hb, hml, hown, hts⟩, hK, hA, hin, hNk, rfl, hret⟩ := C
  intro H locs ls hP hD hS hl
  exact W.widen h1 h2 (k H locs ls hP hD hS hl)
theorem k_vret (C : KC cc own Ts R nL D tys A l ini RP mc ms K) (hd : decode cc pc = .ok (.return_, 1)) (h : RP none ws) : K mc ms pc lv [] ws := by
  obtain ⟨p, e, s, m, args, below, meth, c, Q, -, -, -, -, -, -, hret⟩ := C
  exact hret pc lv none ws hd h
theorem k_iret {x : Int32} (C : KC cc own Ts R nL D tys A l ini RP mc ms K) (hd : decode cc pc = .ok (.ireturn, 1)) (h : RP (some (.int x)) ws) : K mc ms pc lv [.int x] ws := by
  obtain ⟨p, e, s, m, args, below, meth, c, Q, -, -, -, -, -, -, hret⟩ := C
  exact hret pc lv (some (.int x)) ws hd h
theorem k_lret {x : Int64} (C : KC cc own Ts R nL D tys A l ini RP mc ms K) (hd : decode cc pc = .ok (.lreturn, 1)) (h : RP (some (.long x)) ws) : K mc ms pc lv [.long x] ws := by
  obtain ⟨p, e, s, m, args, below, meth, c, Q, -, -, -, -, -, -, hret⟩ := C
  exact hret pc lv (some (.long x)) ws hd h
theorem k_get {a ci ix N : Nat} {Cn : String} {T : u_T} {fs : List Value} {v : Value} (C : KC cc own Ts R nL D tys A l ini RP mc ms K) (hd : decode cc pc = .ok (.getfield ix, 3)) (q0 : Nat) (he : ws[q0]? = some (a, .inr (ci, fs))) (hc : vwCl[ci]? = some (Cn, T, N)) (hin : ∀ w ∈ u_ws Cn T N, w ∈ Ts) (f : Nat) (hf : f < N) (hw : Cond.fieldLink own ix (T f).1 (T f).2.1 (T f).2.2.1 ∈ Ts) (hv : fs[f]? = some v) (n : Nat) (hn : pc + 3 = n) (k : K cs sl n lv (v :: st) ws) : K cs sl pc lv (.ref a :: st) ws := by
  obtain ⟨p, e, s, m, args, below, meth, c, Q, ⟨hx, hb, hml, hown, hts⟩, hK, hA, hini, hNk, rfl, hret⟩ := C
  intro H locs ls hP hD hS hl
  subst hn
  exact va_get hx hb hts hin hown hK hP q0 he hc f hf (hts _ hw) (fun _ h => h) hv hd (k H locs ls hP hD hS hl)
theorem k_put {a ci ix N : Nat} {Cn : String} {T : u_T} {fs : List Value} {v : Value} {ty0 : Nat → FieldType} (C : KC cc own Ts R nL D tys A l ini RP mc ms K) (hd : decode cc pc = .ok (.putfield ix, 3)) (q0 : Nat) (he : ws[q0]? = some (a, .inr (ci, fs))) (hc : vwCl[ci]? = some (Cn, T, N)) (hin : ∀ w ∈ u_ws Cn T N, w ∈ Ts) (hty : ∀ k, k < N → parseFieldDescriptor (T k).2.2.1 = some (ty0 k)) (hnm : ∀ a, a < N → ∀ b, b < N → a ≠ b → (T a).2.1 ≠ (T b).2.1) (f : Nat) (hf : f < N) (hw : Cond.fieldLink own ix (T f).1 (T f).2.1 (T f).2.2.1 ∈ Ts) (hfin : (T f).2.2.2 = false) (hnar : narrow (ty0 f) v = v) (hfit : fits (ty0 f) v = true) (hl0 : f < fs.length) (ws' : va_W) (hws : ws.set q0 (a, .inr (ci, fs.set f v)) = ws') (n : Nat) (hn : pc + 3 = n) (k : K cs sl n lv st ws') : K cs sl pc lv (v :: .ref a :: st) ws := by
  obtain ⟨p, e, s, m, args, below, meth, c, Q, ⟨hx, hb, hml, hown, hts⟩, hK, hA, hinn, hNk, rfl, hret⟩ := C
  intro H locs ls hP hD hS hl
  subst hn
  subst hws
  exact va_put hx hb hts hin ty0 hty hnm hown hK hP hD hS q0 he hc f hf (hts _ hw) (fun _ h => h) hfin (hty f hf) hnar hfit hl0 hd (fun H1 locs1 hP hD hS => k H1 locs1 ls hP hD hS hl)
theorem k_putF {a ci ix N : Nat} {Cn : String} {T : u_T} {fs : List Value} {v : Value} {ty0 : Nat → FieldType} (C : KC cc own Ts R nL D tys A l ini RP mc ms K) (hd : decode cc pc = .ok (.putfield ix, 3)) (q0 : Nat) (he : ws[q0]? = some (a, .inr (ci, fs))) (hc : vwCl[ci]? = some (Cn, T, N)) (hin : ∀ w ∈ u_ws Cn T N, w ∈ Ts) (hty : ∀ k, k < N → parseFieldDescriptor (T k).2.2.1 = some (ty0 k)) (hnm : ∀ a, a < N → ∀ b, b < N → a ≠ b → (T a).2.1 ≠ (T b).2.1) (f : Nat) (hf : f < N) (hw : Cond.fieldLink own ix (T f).1 (T f).2.1 (T f).2.2.1 ∈ Ts) (hfin : (T f).2.2.2 = true) (hini : ini = true) (hdecl : (T f).1 = own) (hnar : narrow (ty0 f) v = v) (hfit : fits (ty0 f) v = true) (hl0 : f < fs.length) (ws' : va_W) (hws : ws.set q0 (a, .inr (ci, fs.set f v)) = ws') (n : Nat) (hn : pc + 3 = n) (k : K cs sl n lv st ws') : K cs sl pc lv (v :: .ref a :: st) ws := by
  obtain ⟨p, e, s, m, args, below, meth, c, Q, ⟨hx, hb, hml, hown, hts⟩, hK, hA, hinn, hNk, rfl, hret⟩ := C
  intro H locs ls hP hD hS hl
  subst hn
  subst hws
  exact va_putF hx hb hts hin ty0 hty hnm hown hK hP hD hS q0 he hc f hf (hts _ hw) (fun _ h => h) hfin (hinn hini) hdecl (hty f hf) hnar hfit hl0 hd (fun H1 locs1 hP hD hS => k H1 locs1 ls hP hD hS hl)
theorem k_getN {a ci ix N : Nat} {Cn host : String} {T : u_T} {fs : List Value} {v : Value} (C : KC cc own Ts R nL D tys A l ini RP mc ms K) (hd : decode cc pc = .ok (.getfield ix, 3)) (q0 : Nat) (he : ws[q0]? = some (a, .inr (ci, fs))) (hc : vwCl[ci]? = some (Cn, T, N)) (hin : ∀ w ∈ u_ws Cn T N, w ∈ Ts) (f : Nat) (hf : f < N) (hw : Cond.fieldLinkNest own ix (T f).1 (T f).2.1 (T f).2.2.1 host ∈ nW) (hv : fs[f]? = some v) (n : Nat) (hn : pc + 3 = n) (k : K cs sl n lv (v :: st) ws) : K cs sl pc lv (.ref a :: st) ws := by
  obtain ⟨p, e, s, m, args, below, meth, c, Q, ⟨hx, hb, hml, hown, hts⟩, hK, hA, hini, hNk, rfl, hret⟩ := C
  intro H locs ls hP hD hS hl
  subst hn
  exact va_getN hx hb hts hin hown hK hP q0 he hc f hf (va_Nw.use rfl (hNk _ hw)) (fun _ h => h) hv hd (k H locs ls hP hD hS hl)
theorem k_putN {a ci ix N : Nat} {Cn host : String} {T : u_T} {fs : List Value} {v : Value} {ty0 : Nat → FieldType} (C : KC cc own Ts R nL D tys A l ini RP mc ms K) (hd : decode cc pc = .ok (.putfield ix, 3)) (q0 : Nat) (he : ws[q0]? = some (a, .inr (ci, fs))) (hc : vwCl[ci]? = some (Cn, T, N)) (hin : ∀ w ∈ u_ws Cn T N, w ∈ Ts) (hty : ∀ k, k < N → parseFieldDescriptor (T k).2.2.1 = some (ty0 k)) (hnm : ∀ a, a < N → ∀ b, b < N → a ≠ b → (T a).2.1 ≠ (T b).2.1) (f : Nat) (hf : f < N) (hw : Cond.fieldLinkNest own ix (T f).1 (T f).2.1 (T f).2.2.1 host ∈ nW) (hfin : (T f).2.2.2 = false) (hnar : narrow (ty0 f) v = v) (hfit : fits (ty0 f) v = true) (hl0 : f < fs.length) (ws' : va_W) (hws : ws.set q0 (a, .inr (ci, fs.set f v)) = ws') (n : Nat) (hn : pc + 3 = n) (k : K cs sl n lv st ws') : K cs sl pc lv (v :: .ref a :: st) ws := by
  obtain ⟨p, e, s, m, args, below, meth, c, Q, ⟨hx, hb, hml, hown, hts⟩, hK, hA, hinn, hNk, rfl, hret⟩ := C
  intro H locs ls hP hD hS hl
  subst hn
  subst hws
  exact va_putN hx hb hts hin ty0 hty hnm hown hK hP hD hS q0 he hc f hf (va_Nw.use rfl (hNk _ hw)) (fun _ h => h) hfin (hty f hf) hnar hfit hl0 hd (fun H1 locs1 hP hD hS => k H1 locs1 ls hP hD hS hl)
theorem k_mmax {x y : Int} {ix : Nat} (C : KC cc own Ts R nL D tys A l ini RP mc ms K) (hd : decode cc pc = .ok (.invokestatic ix, 3)) (h1 : Cond.methodLink own ix Lib.Math.max.name ∈ Ts) (h2 : Cond.static Lib.Math.max.name ∈ Ts) (h3 : Cond.initialized "java/lang/Math" ∈ Ts) (h4 : Cond.code Lib.Math.max.name Lib.Math.max.code 2 (some .int) ∈ Ts) (hf : 1 ≤ R.frames) (hlo : (st.map fun v => v.category).sum + 13 ≤ R.locals) (hcs : cs ≤ R.cells ∧ sl ≤ R.slots) (hr : rI x ∧ rI y) (n : Nat) (hn : pc + 3 = n) (k : K cs sl n lv (.int (iI (max x y)) :: st) ws) : K cs sl pc lv (.int (iI y) :: .int (iI x) :: st) ws := by
  obtain ⟨p, e, s, m, args, below, meth, c, Q, ⟨hx, hb, hml, hown, hts⟩, hK, hA, hin, hNk, rfl, hret⟩ := C
  intro H locs ls hP hD hS hl
  subst hn
  refine va_mmax hx hb (hml.trans hl.1.symm) hown (hts _ h1) (hts _ h2) (hts _ h3) (hts _ h4) hf hlo hcs.1 hcs.2 hd ?_
  rw [iI_max hr.1 hr.2]; exact k H locs ls hP hD hS hl
theorem k_mmin {x y : Int} {ix : Nat} (C : KC cc own Ts R nL D tys A l ini RP mc ms K) (hd : decode cc pc = .ok (.invokestatic ix, 3)) (h1 : Cond.methodLink own ix Lib.Math.min.name ∈ Ts) (h2 : Cond.static Lib.Math.min.name ∈ Ts) (h3 : Cond.initialized "java/lang/Math" ∈ Ts) (h4 : Cond.code Lib.Math.min.name Lib.Math.min.code 2 (some .int) ∈ Ts) (hf : 1 ≤ R.frames) (hlo : (st.map fun v => v.category).sum + 13 ≤ R.locals) (hcs : cs ≤ R.cells ∧ sl ≤ R.slots) (hr : rI x ∧ rI y) (n : Nat) (hn : pc + 3 = n) (k : K cs sl n lv (.int (iI (min x y)) :: st) ws) : K cs sl pc lv (.int (iI y) :: .int (iI x) :: st) ws := by
  obtain ⟨p, e, s, m, args, below, meth, c, Q, ⟨hx, hb, hml, hown, hts⟩, hK, hA, hin, hNk, rfl, hret⟩ := C
  intro H locs ls hP hD hS hl
  subst hn
  refine va_mmin hx hb (hml.trans hl.1.symm) hown (hts _ h1) (hts _ h2) (hts _ h3) (hts _ h4) hf hlo hcs.1 hcs.2 hd ?_
  rw [iI_min hr.1 hr.2]; exact k H locs ls hP hD hS hl
theorem k_mabs {x : Int} {ix : Nat} (C : KC cc own Ts R nL D tys A l ini RP mc ms K) (hd : decode cc pc = .ok (.invokestatic ix, 3)) (h1 : Cond.methodLink own ix Lib.Math.abs.name ∈ Ts) (h2 : Cond.static Lib.Math.abs.name ∈ Ts) (h3 : Cond.initialized "java/lang/Math" ∈ Ts) (h4 : Cond.code Lib.Math.abs.name Lib.Math.abs.code 1 (some .int) ∈ Ts) (hf : 1 ≤ R.frames) (hlo : (st.map fun v => v.category).sum + 13 ≤ R.locals) (hcs : cs ≤ R.cells ∧ sl ≤ R.slots) (hr : rI x) (n : Nat) (hn : pc + 3 = n) (k : K cs sl n lv (.int (iI (iabs x)) :: st) ws) : K cs sl pc lv (.int (iI x) :: st) ws := by
  obtain ⟨p, e, s, m, args, below, meth, c, Q, ⟨hx, hb, hml, hown, hts⟩, hK, hA, hin, hNk, rfl, hret⟩ := C
  intro H locs ls hP hD hS hl
  subst hn
  refine va_mabs hx hb (hml.trans hl.1.symm) hown (hts _ h1) (hts _ h2) (hts _ h3) (hts _ h4) hf hlo hcs.1 hcs.2 hd ?_
  rw [iI_abs hr]; exact k H locs ls hP hD hS hl
theorem k_copy {ix a a0 N N0 : Nat} {cA : ClassId} {f g : Int → Int} {x : Int} (C : KC cc own Ts R nL D tys A l ini RP mc ms K) (hd : decode cc pc = .ok (.invokestatic ix, 3)) (h1 : Cond.methodLink own ix arraycopyName ∈ Ts) (h2 : Cond.native arraycopyName ∈ Ts) (h3 : Cond.static arraycopyName ∈ Ts) (h4 : Cond.initialized "java/lang/System" ∈ Ts) (q0 q1 t0 : Nat) (ha0 : ws[q0]? = some (a0, .inl (cA, N0, .inl (mI f)))) (ha1 : ws[q1]? = some (a, .inl (cA, N, .inl (mI g)))) (ht : tys[t0]? = some (cA, .int)) (hN : N ≤ 2147483647) (hx0 : 0 ≤ x ∧ x ≤ N0 ∧ x ≤ N) (hf : 1 ≤ R.frames) (hlo : (st.map fun v => v.category).sum + (nativeFrameWords "java/lang/System" "arraycopy" 5 + 11) ≤ R.locals) (ws' : va_W) (hws : ws.set q1 (a, .inl (cA, N, .inl (mI (acpy f g x)))) = ws') (n : Nat) (hn : pc + 3 = n) (k : K cs sl n lv st ws') : K cs sl pc lv (.int (iI x) :: .int (iI 0) :: .ref a :: .int (iI 0) :: .ref a0 :: st) ws := by
  obtain ⟨p, e, s, m, args, below, meth, c, Q, ⟨hx, hb, hml, hown, hts⟩, hK, hA, hin, hNk, rfl, hret⟩ := C
  intro H locs ls hP hD hS hl
  subst hn
  subst hws
  have hc := iI_cl hx0.1 (by omega)
  have hz : (iI 0).toNatClampNeg = 0 := rfl
  have h0 : ¬ iI 0 < 0 := by rw [iI_0, iI_lt rI_0 rI_0]; omega
  have h5 : ¬ iI x < 0 := by rw [iI_0, iI_lt ⟨by omega, by omega⟩ rI_0]; omega
  refine va_copyi hx hb (hml.trans hl.1.symm) hown (hts _ h1) (hts _ h2) (hts _ h3) (hts _ h4) hK hP hD hS q0 q1 t0 t0 ha0 ha1 ht ht rfl h0 h0 h5 (by rw [hz, hc]; omega) (by rw [hz, hc]; omega) (fun _ _ => rfl) hf hlo hd ?_
  rw [hz, hc, mI_cpy hx0.1]
  exact fun H1 locs1 hP hD hS => k H1 locs1 ls hP hD hS hl
theorem k_dup2 {va vb : Value} (C : KC cc own Ts R nL D tys A l ini RP mc ms K) (hd : decode cc pc = .ok (.dup2, 1)) (hva : va.category = 1) (hvb : vb.category = 1) (n : Nat) (hn : pc + 1 = n) (k : K cs sl n lv (va :: vb :: va :: vb :: st) ws) : K cs sl pc lv (va :: vb :: st) ws := by
  obtain ⟨p, e, s, m, args, below, meth, c, Q, ⟨hx, hb, hml, hown, hts⟩, hK, hA, hin, hNk, rfl, hret⟩ := C
  intro H locs ls hP hD hS hl
  subst hn
  exact lv_dup2_11 hx hb hd hva hvb (k H locs ls hP hD hS hl)
theorem k_iaload {a N : Nat} {cA : ClassId} {f : Int → Int} {i : Int} (C : KC cc own Ts R nL D tys A l ini RP mc ms K) (hd : decode cc pc = .ok (.iaload, 1)) (q0 t0 : Nat) (ha : ws[q0]? = some (a, .inl (cA, N, .inl (mI f)))) (ht : tys[t0]? = some (cA, .int)) (hN : N ≤ 2147483647) (hi : 0 ≤ i ∧ i < N) (n : Nat) (hn : pc + 1 = n) (k : K cs sl n lv (.int (iI (f i)) :: st) ws) : K cs sl pc lv (.int (iI i) :: .ref a :: st) ws := by
  obtain ⟨p, e, s, m, args, below, meth, c, Q, ⟨hx, hb, hml, hown, hts⟩, hK, hA, hin, hNk, rfl, hret⟩ := C
  intro H locs ls hP hD hS hl
  subst hn
  refine va_iald hx hb hK hP q0 t0 ha ht (iI_in hi hN) hd ?_
  rw [mI_at hi hN]; exact k H locs ls hP hD hS hl
theorem k_baload {a N : Nat} {cA : ClassId} {f : Int → Int} {i : Int} (C : KC cc own Ts R nL D tys A l ini RP mc ms K) (hd : decode cc pc = .ok (.baload, 1)) (q0 t0 : Nat) (ha : ws[q0]? = some (a, .inl (cA, N, .inl (mI f)))) (ht : tys[t0]? = some (cA, .boolean)) (hN : N ≤ 2147483647) (hi : 0 ≤ i ∧ i < N) (n : Nat) (hn : pc + 1 = n) (k : K cs sl n lv (.int (iI (f i)) :: st) ws) : K cs sl pc lv (.int (iI i) :: .ref a :: st) ws := by
  obtain ⟨p, e, s, m, args, below, meth, c, Q, ⟨hx, hb, hml, hown, hts⟩, hK, hA, hin, hNk, rfl, hret⟩ := C
  intro H locs ls hP hD hS hl
  subst hn
  refine va_zald hx hb hK hP q0 t0 ha ht (iI_in hi hN) hd ?_
  rw [mI_at hi hN]; exact k H locs ls hP hD hS hl
theorem k_laload {a N : Nat} {cA : ClassId} {f : Int → Int} {i : Int} (C : KC cc own Ts R nL D tys A l ini RP mc ms K) (hd : decode cc pc = .ok (.laload, 1)) (q0 t0 : Nat) (ha : ws[q0]? = some (a, .inl (cA, N, .inr (.inl (mL f))))) (ht : tys[t0]? = some (cA, .long)) (hN : N ≤ 2147483647) (hi : 0 ≤ i ∧ i < N) (n : Nat) (hn : pc + 1 = n) (k : K cs sl n lv (.long (lL (f i)) :: st) ws) : K cs sl pc lv (.int (iI i) :: .ref a :: st) ws := by
  obtain ⟨p, e, s, m, args, below, meth, c, Q, ⟨hx, hb, hml, hown, hts⟩, hK, hA, hin, hNk, rfl, hret⟩ := C
  intro H locs ls hP hD hS hl
  subst hn
  refine va_lald hx hb hK hP q0 t0 ha ht (iI_in hi hN) hd ?_
  rw [mL_at hi hN]; exact k H locs ls hP hD hS hl
theorem k_iastore {a N : Nat} {cA : ClassId} {f : Int → Int} {i x : Int} (C : KC cc own Ts R nL D tys A l ini RP mc ms K) (hd : decode cc pc = .ok (.iastore, 1)) (q0 t0 : Nat) (ha : ws[q0]? = some (a, .inl (cA, N, .inl (mI f)))) (ht : tys[t0]? = some (cA, .int)) (hN : N ≤ 2147483647) (hi : 0 ≤ i ∧ i < N) (ws' : va_W) (hws : ws.set q0 (a, .inl (cA, N, .inl (mI (aset f i x)))) = ws') (n : Nat) (hn : pc + 1 = n) (k : K cs sl n lv st ws') : K cs sl pc lv (.int (iI x) :: .int (iI i) :: .ref a :: st) ws := by
  obtain ⟨p, e, s, m, args, below, meth, c, Q, ⟨hx, hb, hml, hown, hts⟩, hK, hA, hin, hNk, rfl, hret⟩ := C
  intro H locs ls hP hD hS hl
  subst hn
  subst hws
  refine va_iast hx hb hK hP hD hS q0 t0 ha ht (iI_in hi hN) hd ?_
  rw [mI_set hi hN]; exact fun H1 locs1 hP hD hS => k H1 locs1 ls hP hD hS hl
theorem k_lastore {a N : Nat} {cA : ClassId} {f : Int → Int} {i x : Int} (C : KC cc own Ts R nL D tys A l ini RP mc ms K) (hd : decode cc pc = .ok (.lastore, 1)) (q0 t0 : Nat) (ha : ws[q0]? = some (a, .inl (cA, N, .inr (.inl (mL f))))) (ht : tys[t0]? = some (cA, .long)) (hN : N ≤ 2147483647) (hi : 0 ≤ i ∧ i < N) (ws' : va_W) (hws : ws.set q0 (a, .inl (cA, N, .inr (.inl (mL (aset f i x))))) = ws') (n : Nat) (hn : pc + 1 = n) (k : K cs sl n lv st ws') : K cs sl pc lv (.long (lL x) :: .int (iI i) :: .ref a :: st) ws := by
  obtain ⟨p, e, s, m, args, below, meth, c, Q, ⟨hx, hb, hml, hown, hts⟩, hK, hA, hin, hNk, rfl, hret⟩ := C
  intro H locs ls hP hD hS hl
  subst hn
  subst hws
  refine va_last hx hb hK hP hD hS q0 t0 ha ht (iI_in hi hN) hd ?_
  rw [mL_set hi hN]; exact fun H1 locs1 hP hD hS => k H1 locs1 ls hP hD hS hl
theorem k_bastore {a N : Nat} {cA : ClassId} {f : Int → Int} {i x : Int} (C : KC cc own Ts R nL D tys A l ini RP mc ms K) (hd : decode cc pc = .ok (.bastore, 1)) (q0 t0 : Nat) (ha : ws[q0]? = some (a, .inl (cA, N, .inl (mI f)))) (ht : tys[t0]? = some (cA, .boolean)) (hN : N ≤ 2147483647) (hi : 0 ≤ i ∧ i < N) (hx01 : x = 0 ∨ x = 1) (ws' : va_W) (hws : ws.set q0 (a, .inl (cA, N, .inl (mI (aset f i x)))) = ws') (n : Nat) (hn : pc + 1 = n) (k : K cs sl n lv st ws') : K cs sl pc lv (.int (iI x) :: .int (iI i) :: .ref a :: st) ws := by
  obtain ⟨p, e, s, m, args, below, meth, c, Q, ⟨hx, hb, hml, hown, hts⟩, hK, hA, hin, hNk, rfl, hret⟩ := C
  intro H locs ls hP hD hS hl
  subst hn
  subst hws
  refine va_zast hx hb hK hP hD hS q0 t0 ha ht (iI_in hi hN) hd ?_
  rw [show vp_nar .boolean (iI x) = iI x by rcases hx01 with rfl | rfl <;> rfl, mI_set hi hN]; exact fun H1 locs1 hP hD hS => k H1 locs1 ls hP hD hS hl
theorem k_alen {a N : Nat} {cA : ClassId} {x : (Nat → Int32) ⊕ (Nat → Int64) ⊕ (Nat → UInt32) ⊕ (Nat → UInt64) ⊕ (Nat → Option Nat)} {ty : FieldType} (C : KC cc own Ts R nL D tys A l ini RP mc ms K) (hd : decode cc pc = .ok (.arraylength, 1)) (q0 t0 : Nat) (ha : ws[q0]? = some (a, .inl (cA, N, x))) (ht : tys[t0]? = some (cA, ty)) (n : Nat) (hn : pc + 1 = n) (k : K cs sl n lv (.int (iI (N : Int)) :: st) ws) : K cs sl pc lv (.ref a :: st) ws := by
  obtain ⟨p, e, s, m, args, below, meth, c, Q, ⟨hx, hb, hml, hown, hts⟩, hK, hA, hin, hNk, rfl, hret⟩ := C
  intro H locs ls hP hD hS hl
  subst hn
  exact va_alen (v := iI (N : Int)) hx hb hK hP q0 t0 ha ht (Int32.ofInt_eq_ofNat (n := N)).symm hd (k H locs ls hP hD hS hl)
theorem k_tsIn {x v dflt lo hi off : Int} {offs : Array Int} {len : Nat} (C : KC cc own Ts R nL D tys A l ini RP mc ms K) (hd : decode cc pc = .ok (.tableswitch dflt lo hi offs, len)) (ev : x = v) (hr : rI v) (h1 : ¬ v < lo) (h2 : ¬ hi < v) (ho : offs[(v - lo).toNat]? = some off) (tgt : Nat) (ht : (pc : Int) + off = (tgt : Int)) (k : K cs sl tgt lv st ws) : K cs sl pc lv (.int (iI x) :: st) ws := by
  obtain ⟨p, e, s, m, args, below, meth, c, Q, ⟨hx, hb, hml, hown, hts⟩, hK, hA, hin, hNk, rfl, hret⟩ := C
  intro H locs ls hP hD hS hl
  subst ev
  have t := iI_t hr
  exact lv_tableIn hx hb hd (by rw [t]; exact h1) (by rw [t]; exact h2) (by rw [t]; exact ho) ht (k H locs ls hP hD hS hl)
theorem k_tsOut {x dflt lo hi : Int} {offs : Array Int} {len : Nat} (C : KC cc own Ts R nL D tys A l ini RP mc ms K) (hd : decode cc pc = .ok (.tableswitch dflt lo hi offs, len)) (hr : rI x) (h : x < lo ∨ hi < x) (tgt : Nat) (ht : (pc : Int) + dflt = (tgt : Int)) (k : K cs sl tgt lv st ws) : K cs sl pc lv (.int (iI x) :: st) ws := by
  obtain ⟨p, e, s, m, args, below, meth, c, Q, ⟨hx, hb, hml, hown, hts⟩, hK, hA, hin, hNk, rfl, hret⟩ := C
  intro H locs ls hP hD hS hl
  have t := iI_t hr
  exact lv_tableOut hx hb hd (by rw [t]; exact h) ht (k H locs ls hP hD hS hl)
theorem k_lsOut {x dflt off : Int} {ps : Array (Int × Int)} {len : Nat} (C : KC cc own Ts R nL D tys A l ini RP mc ms K) (hd : decode cc pc = .ok (.lookupswitch dflt ps, len)) (hr : rI x) (hp : (ps.toList.zip (ps.toList.drop 1)).all (fun (a, next) => a.1 < next.1) = true) (ho : Op.lookupswitch.offset ps.toList dflt x = off) (tgt : Nat) (ht : (pc : Int) + off = (tgt : Int)) (k : K cs sl tgt lv st ws) : K cs sl pc lv (.int (iI x) :: st) ws := by
  obtain ⟨p, e, s, m, args, below, meth, c, Q, ⟨hx, hb, hml, hown, hts⟩, hK, hA, hin, hNk, rfl, hret⟩ := C
  intro H locs ls hP hD hS hl
  have t := iI_t hr
  exact lv_lookup hx hb hd hp (by rw [t]; exact ho) ht (k H locs ls hP hD hS hl)
theorem k_lsIn {x v dflt off : Int} {ps : Array (Int × Int)} {len : Nat} (C : KC cc own Ts R nL D tys A l ini RP mc ms K) (hd : decode cc pc = .ok (.lookupswitch dflt ps, len)) (ev : x = v) (hr : rI v) (hp : (ps.toList.zip (ps.toList.drop 1)).all (fun (a, next) => a.1 < next.1) = true) (ho : Op.lookupswitch.offset ps.toList dflt v = off) (tgt : Nat) (ht : (pc : Int) + off = (tgt : Int)) (k : K cs sl tgt lv st ws) : K cs sl pc lv (.int (iI x) :: st) ws := by
  subst ev; exact k_lsOut C hd hr hp ho tgt ht k
theorem kq_fm {α : Type} {ws : List α} : ∀ {is : List Nat}, is.all (fun i => decide (i < ws.length)) = true → is.map (fun i => ws[i]?) = (is.filterMap (fun i => ws[i]?)).map some := by
  intro is
  induction is with
  | nil => intro _; rfl
  | cons i is ih =>
    intro h
    rw [List.all_cons, Bool.and_eq_true, decide_eq_true_eq] at h
    rw [List.map_cons, List.filterMap_cons, List.getElem?_eq_getElem h.1, List.map_cons, ih h.2]
theorem kq_blind {D : va_G} {tys : List (ClassId × FieldType)} {wsIn : va_W} {argv : List Value} {sz : Nat} : FrameBlind (va_Pc argv (fun U => U.heap.size = sz ∧ va_P D vwCl wsIn U.heap ∧ va_K D vwCl tys U ∧ va_D (fun _ => True) wsIn ∧ nOk U)) := fun a U g mk q => by
  obtain ⟨q0, q1, qP, qK, qD, qN⟩ := q
  exact ⟨q0, q1, qP, va_K.moved (u := U) (U := U.calling g mk a) (Vm.Alike.refl U.vm) qK, qD, nOk_same (s := U) (U := U.calling g mk a) rfl qN⟩
theorem kq_call {p : Program} {l : Launch} {e : Env} {R : Room} {s : State} {m : MethodId} {args : Array Value} {below : List Frame} {meth : Method} {c : Code} {H : Heap} {locs : List Loc} {cells slots : Nat} {Q : State → Prop} {pc : Nat} {ls : Array Slot} {rest st0 : List Value} {a : Array Value} {A0 A1 : Nat → Prop} {H0 : Heap} {mc ms : Nat} {free : Addr → Prop} {D : va_G} {tys : List (ClassId × FieldType)} {RPc : Option Value → va_W → Prop}
    (hr : va_Run p l e R s m args below meth c H locs cells slots mc ms (F0 m pc ls st0) rest (KQ RPc D tys A1 a) free) (hS : va_S A0 H0 H locs) (hA : ∀ q, q < H.size → A1 q → A0 q) (hf : ∀ q, free q → A0 q)
    (kk : ∀ (v : Option Value) (w1 : va_W) (t : State) (H1 : Heap) (locs1 : List Loc), t.heap = H1 → s.vm.Alike t.vm → RPc v w1 → va_P D vwCl w1 t.heap → va_K D vwCl tys t → va_D A1 w1 → H.size ≤ H1.size → (∀ q : Nat, q < H.size → ¬ A1 q → H1[q]? = H[q]?) → va_S A0 H0 H1 locs1 → W p l e R s m args below meth c H1 locs1 (cells + mc) (slots + ms) Q (F0 m (pc + 3) ls (v.toList ++ rest))) : W p l e R s m args below meth c H locs cells slots Q (F0 m pc ls st0) := by
  intro T hT X
  obtain ⟨v, st₀, t, T', L, h0, X', hL, e1, e2, ⟨⟨v', w1, hv, hp, hb, hk9, hd9⟩, hz, hk⟩, st⟩ := hr T hT X
  cases hv
  rw [h0] at hz hk
  obtain ⟨t2, a1, b1⟩ := kk v w1 t T'.heap (locs ++ L) e1.symm (by rw [← e2]; exact X'.warmed.alike) hp hb hk9 hd9 (by rw [e1]; exact hz) (fun q h1 h2 => by rw [e1]; exact hk q h1 h2)
    ⟨Nat.le_trans hS.1 (by rw [e1]; exact hz), fun q h1 h2 => by rw [e1, hk q (Nat.lt_of_lt_of_le h1 hS.1) (fun z => h2 (hA q (Nat.lt_of_lt_of_le h1 hS.1) z))]; exact hS.2.1 q h1 h2, fun q hq => by
      rcases List.mem_append.mp hq with h | h
      · exact hS.2.2 q h
      · exact hf _ (hL q h)⟩ T' rfl X'
  exact ⟨t2, st t2 a1, b1⟩
theorem k_callV {y : MethodName} {wsy ws' : List Cond} {rm : Room} {As rest : List Value} {wc : va_W} {RPc : Option Value → va_W → Prop} {ix maxL mc1 ms1 : Nat} {bytes : ByteArray} {ret : Option FieldType} {b : Nat} (C : KC cc own Ts R nL D tys A l ini RP mc ms K) (hd : decode cc pc = .ok (.invokevirtual ix, 3)) (hM : KM l D tys mc1 ms1 y wsy rm (.ref b :: As) wc RPc) (hG : GoodIn Ts (wsV own ix y.cls y wsy)) (hw : wsy = Cond.code y bytes maxL ret :: ws') (hsig : y.cls ≠ "java/lang/invoke/MethodHandle" ∧ y.cls ≠ "java/lang/invoke/VarHandle" ∧ (parseMethodDescriptor y.desc).map (fun d => d.parameters.length) = some As.length) (ci : Nat) {T : u_T} {N : Nat} (hc : vwCl[ci]? = some (y.cls, T, N)) {fs : List Value} (hrec : wc[0]? = some (b, .inr (ci, fs))) (hst : st = As.reverse ++ .ref b :: rest) (hroom : ((rest.map fun v => v.category).sum ≤ 8)) (hrm : (rm.cells = mc1 ∧ rm.slots = ms1) ∧ (rm.frames + 1 ≤ R.frames ∧ 8 + (maxL + 11) + rm.locals ≤ R.locals)) (hcs : cs + mc1 ≤ R.cells ∧ sl + ms1 ≤ R.slots) (isC isR : List Nat) (hC : isC.map (fun i => ws[i]?) = wc.map some) (hnC : va_nd isC = true) (hR : isR.all (fun i => decide (i < ws.length)) = true) (hnR : va_nd isR = true) (hdis : ∀ i ∈ isR, i ∉ isC) (cs2 sl2 : Nat) (hc2 : cs + mc1 = cs2 ∧ sl + ms1 = sl2) (n : Nat) (hn : pc + 3 = n) (kk : ∀ v w1, RPc v w1 → K cs2 sl2 n lv (v.toList ++ rest) ((isR.filterMap (fun i => ws[i]?)) ++ w1)) : K cs sl pc lv st ws := by
  obtain ⟨p, e, s, m, args, below, meth, c, Q, ⟨hx, hb, hml, hown, hts⟩, hK, hA, hin, hNk, rfl, hret⟩ := C
  intro H locs ls hP hD hS hl
  subst hn
  subst hst
  obtain ⟨rfl, rfl⟩ := hc2
  have hDc : va_D A wc := hD.sub isC hnC hC
  have hPc : va_P D vwCl wc H := fun k q hk => by
    have h1 : (isC.map (fun i => ws[i]?))[k]? = some (some q) := by rw [hC, List.getElem?_map, hk]; rfl
    rw [List.getElem?_map] at h1
    cases hi : isC[k]? with
    | none => rw [hi] at h1; cases h1
    | some i => rw [hi] at h1; exact hP i q (Option.some.inj h1)
  have hFc := va_free (wc := wc) hD hS hA isC hC
  refine kq_call (va_runV (As := As) (rest := rest) ⟨hx, hb, hml, hown, hts⟩ (hM H.size) (cwV As.length hts hG hw hrm.1.1 hrm.1.2 ⟨rfl, hsig⟩ hrm.2) ⟨kq_blind, va_recv hK hPc (ci := ci) (q0 := 0) hc hrec, fun U hU hW => ⟨rfl, by rw [hU], by rw [hU]; exact hPc, va_K.moved hW.alike hK, hDc.weaken (fun _ _ _ _ => trivial), nOk_warm hW hNk⟩⟩ rfl rfl hl.1 rfl (lv_room hroom) hd hcs) hS (fun q _ h => hFc q h) hFc (fun v w1 t H1 locs1 ht hvm hw9 hP1 hK1 hD1 hz1 hk1 hS1 => ?_)
  rw [ht] at hP1
  obtain ⟨hP2, hD2⟩ := va_join hP hD isC isR hC (kq_fm hR) hnR hdis hk1 hFc hP1 hD1
  exact kk v w1 hw9 H1 locs1 ls hP2 hD2 hS1 hl
theorem k_callS {y : MethodName} {wsy ws' : List Cond} {rm : Room} {As rest : List Value} {wc : va_W} {RPc : Option Value → va_W → Prop} {ix maxL mc1 ms1 : Nat} {bytes : ByteArray} {ret : Option FieldType} (C : KC cc own Ts R nL D tys A l ini RP mc ms K) (hd : decode cc pc = .ok (.invokestatic ix, 3)) (hM : KM l D tys mc1 ms1 y wsy rm As wc RPc) (hG : GoodIn Ts (va_wsS own ix y wsy)) (hw : wsy = Cond.code y bytes maxL ret :: ws') (hsig : y.cls ≠ "java/lang/invoke/MethodHandle" ∧ y.cls ≠ "java/lang/invoke/VarHandle" ∧ (parseMethodDescriptor y.desc).map (fun d => d.parameters.length) = some As.length) (hst : st = As.reverse ++ rest) (hroom : ((rest.map fun v => v.category).sum ≤ 8)) (hrm : (rm.cells = mc1 ∧ rm.slots = ms1) ∧ (rm.frames + 1 ≤ R.frames ∧ 8 + (maxL + 11) + rm.locals ≤ R.locals)) (hcs : cs + mc1 ≤ R.cells ∧ sl + ms1 ≤ R.slots) (isC isR : List Nat) (hC : isC.map (fun i => ws[i]?) = wc.map some) (hnC : va_nd isC = true) (hR : isR.all (fun i => decide (i < ws.length)) = true) (hnR : va_nd isR = true) (hdis : ∀ i ∈ isR, i ∉ isC) (cs2 sl2 : Nat) (hc2 : cs + mc1 = cs2 ∧ sl + ms1 = sl2) (n : Nat) (hn : pc + 3 = n) (kk : ∀ v w1, RPc v w1 → K cs2 sl2 n lv (v.toList ++ rest) ((isR.filterMap (fun i => ws[i]?)) ++ w1)) : K cs sl pc lv st ws := by
  obtain ⟨p, e, s, m, args, below, meth, c, Q, ⟨hx, hb, hml, hown, hts⟩, hK, hA, hin, hNk, rfl, hret⟩ := C
  intro H locs ls hP hD hS hl
  subst hn
  subst hst
  obtain ⟨rfl, rfl⟩ := hc2
  have hDc : va_D A wc := hD.sub isC hnC hC
  have hPc : va_P D vwCl wc H := fun k q hk => by
    have h1 : (isC.map (fun i => ws[i]?))[k]? = some (some q) := by rw [hC, List.getElem?_map, hk]; rfl
    rw [List.getElem?_map] at h1
    cases hi : isC[k]? with
    | none => rw [hi] at h1; cases h1
    | some i => rw [hi] at h1; exact hP i q (Option.some.inj h1)
  have hFc := va_free (wc := wc) hD hS hA isC hC
  refine kq_call (va_runS (As := As) (rest := rest) ⟨hx, hb, hml, hown, hts⟩ (hM H.size) (va_cwS As.length hts hG hw hrm.1.1 hrm.1.2 hsig hrm.2) ⟨kq_blind, fun U hU hW => ⟨rfl, by rw [hU], by rw [hU]; exact hPc, va_K.moved hW.alike hK, hDc.weaken (fun _ _ _ _ => trivial), nOk_warm hW hNk⟩⟩ rfl rfl hl.1 rfl (lv_room hroom) hd hcs) hS (fun q _ h => hFc q h) hFc (fun v w1 t H1 locs1 ht hvm hw9 hP1 hK1 hD1 hz1 hk1 hS1 => ?_)
  rw [ht] at hP1
  obtain ⟨hP2, hD2⟩ := va_join hP hD isC isR hC (kq_fm hR) hnR hdis hk1 hFc hP1 hD1
  exact kk v w1 hw9 H1 locs1 ls hP2 hD2 hS1 hl
theorem k_callI {y : MethodName} {wsy ws' : List Cond} {rm : Room} {As rest : List Value} {wc : va_W} {RPc : Option Value → va_W → Prop} {ix maxL mc1 ms1 : Nat} {bytes : ByteArray} {ret : Option FieldType} {b : Nat} (C : KC cc own Ts R nL D tys A l ini RP mc ms K) (hd : decode cc pc = .ok (.invokespecial ix, 3)) (hM : KM l D tys mc1 ms1 y wsy rm (.ref b :: As) wc RPc) (hG : GoodIn Ts wsy) (hw : wsy = Cond.code y bytes maxL none :: ws') (hsig : y.cls ≠ "java/lang/invoke/MethodHandle" ∧ y.cls ≠ "java/lang/invoke/VarHandle" ∧ (parseMethodDescriptor y.desc).map (fun d => d.parameters.length) = some As.length) (hi1 : Cond.initialized y.cls ∈ Ts) (hi2 : Cond.methodLink own ix y ∈ Ts) (hi3 : Cond.instanceMethod y ∈ Ts) (hy1 : y.name = "<init>") (hst : st = As.reverse ++ .ref b :: rest) (hroom : ((rest.map fun v => v.category).sum ≤ 8)) (hrm : (rm.cells = mc1 ∧ rm.slots = ms1) ∧ (rm.frames + 1 ≤ R.frames ∧ 8 + (maxL + 11) + rm.locals ≤ R.locals)) (hcs : cs + mc1 ≤ R.cells ∧ sl + ms1 ≤ R.slots) (isC isR : List Nat) (hC : isC.map (fun i => ws[i]?) = wc.map some) (hnC : va_nd isC = true) (hR : isR.all (fun i => decide (i < ws.length)) = true) (hnR : va_nd isR = true) (hdis : ∀ i ∈ isR, i ∉ isC) (cs2 sl2 : Nat) (hc2 : cs + mc1 = cs2 ∧ sl + ms1 = sl2) (n : Nat) (hn : pc + 3 = n) (kk : ∀ v w1, RPc v w1 → K cs2 sl2 n lv (v.toList ++ rest) ((isR.filterMap (fun i => ws[i]?)) ++ w1)) : K cs sl pc lv st ws := by
  obtain ⟨p, e, s, m, args, below, meth, c, Q, ⟨hx, hb, hml, hown, hts⟩, hK, hA, hin, hNk, rfl, hret⟩ := C
  intro H locs ls hP hD hS hl
  subst hn
  subst hst
  obtain ⟨rfl, rfl⟩ := hc2
  have hDc : va_D A wc := hD.sub isC hnC hC
  have hPc : va_P D vwCl wc H := fun k q hk => by
    have h1 : (isC.map (fun i => ws[i]?))[k]? = some (some q) := by rw [hC, List.getElem?_map, hk]; rfl
    rw [List.getElem?_map] at h1
    cases hi : isC[k]? with
    | none => rw [hi] at h1; cases h1
    | some i => rw [hi] at h1; exact hP i q (Option.some.inj h1)
  have hFc := va_free (wc := wc) hD hS hA isC hC
  refine kq_call (va_runI (As := As) (rest := rest) ⟨hx, hb, hml, hown, hts⟩ (hM H.size) (cwI As.length hts hG hw hrm.1.1 hrm.1.2 (hts _ hi1) (hts _ hi2) (hts _ hi3) hy1 hsig hrm.2) ⟨kq_blind, fun U hU hW => ⟨rfl, by rw [hU], by rw [hU]; exact hPc, va_K.moved hW.alike hK, hDc.weaken (fun _ _ _ _ => trivial), nOk_warm hW hNk⟩⟩ rfl rfl hl.1 rfl (lv_room hroom) hd hcs) hS (fun q _ h => hFc q h) hFc (fun v w1 t H1 locs1 ht hvm hw9 hP1 hK1 hD1 hz1 hk1 hS1 => ?_)
  rw [ht] at hP1
  obtain ⟨hP2, hD2⟩ := va_join hP hD isC isR hC (kq_fm hR) hnR hdis hk1 hFc hP1 hD1
  exact kk v w1 hw9 H1 locs1 ls hP2 hD2 hS1 hl
theorem k_callNV {y : MethodName} {host : String} {wsy ws' : List Cond} {rm : Room} {As rest : List Value} {wc : va_W} {RPc : Option Value → va_W → Prop} {ix maxL mc1 ms1 : Nat} {bytes : ByteArray} {ret : Option FieldType} {b : Nat} (C : KC cc own Ts R nL D tys A l ini RP mc ms K) (hd : decode cc pc = .ok (.invokevirtual ix, 3)) (hM : KM l D tys mc1 ms1 y wsy rm (.ref b :: As) wc RPc) (hG : GoodIn Ts wsy) (hlk : Cond.methodLinkNest own ix y host ∈ nW) (hini0 : Cond.initialized y.cls ∈ Ts) (hw : wsy = Cond.code y bytes maxL ret :: ws') (hsig : y.cls ≠ "java/lang/invoke/MethodHandle" ∧ y.cls ≠ "java/lang/invoke/VarHandle" ∧ (parseMethodDescriptor y.desc).map (fun d => d.parameters.length) = some As.length) (hi2 : Cond.instanceMethod y ∈ Ts) (hi3 : Cond.selects y.cls y y ∈ Ts) (ci : Nat) {T : u_T} {N : Nat} (hc : vwCl[ci]? = some (y.cls, T, N)) {fs : List Value} (hrec : wc[0]? = some (b, .inr (ci, fs))) (hst : st = As.reverse ++ .ref b :: rest) (hroom : ((rest.map fun v => v.category).sum ≤ 8)) (hrm : (rm.cells = mc1 ∧ rm.slots = ms1) ∧ (rm.frames + 1 ≤ R.frames ∧ 8 + (maxL + 11) + rm.locals ≤ R.locals)) (hcs : cs + mc1 ≤ R.cells ∧ sl + ms1 ≤ R.slots) (isC isR : List Nat) (hC : isC.map (fun i => ws[i]?) = wc.map some) (hnC : va_nd isC = true) (hR : isR.all (fun i => decide (i < ws.length)) = true) (hnR : va_nd isR = true) (hdis : ∀ i ∈ isR, i ∉ isC) (cs2 sl2 : Nat) (hc2 : cs + mc1 = cs2 ∧ sl + ms1 = sl2) (n : Nat) (hn : pc + 3 = n) (kk : ∀ v w1, RPc v w1 → K cs2 sl2 n lv (v.toList ++ rest) ((isR.filterMap (fun i => ws[i]?)) ++ w1)) : K cs sl pc lv st ws := by
  obtain ⟨p, e, s, m, args, below, meth, c, Q, ⟨hx, hb, hml, hown, hts⟩, hK, hA, hin, hNk, rfl, hret⟩ := C
  intro H locs ls hP hD hS hl
  subst hn
  subst hst
  obtain ⟨rfl, rfl⟩ := hc2
  have hDc : va_D A wc := hD.sub isC hnC hC
  have hPc : va_P D vwCl wc H := fun k q hk => by
    have h1 : (isC.map (fun i => ws[i]?))[k]? = some (some q) := by rw [hC, List.getElem?_map, hk]; rfl
    rw [List.getElem?_map] at h1
    cases hi : isC[k]? with
    | none => rw [hi] at h1; cases h1
    | some i => rw [hi] at h1; exact hP i q (Option.some.inj h1)
  have hFc := va_free (wc := wc) hD hS hA isC hC
  refine kq_call (va_runVN (As := As) (rest := rest) ⟨hx, hb, hml, hown, hts⟩ (hM H.size) ⟨va_cnB As.length hts hG hw hrm.1.1 hrm.1.2 (hNk _ hlk) (hts _ hini0) hsig hrm.2, hts _ hi2, hts _ hi3⟩ ⟨kq_blind, va_recv hK hPc (ci := ci) (q0 := 0) hc hrec, fun U hU hW => ⟨rfl, by rw [hU], by rw [hU]; exact hPc, va_K.moved hW.alike hK, hDc.weaken (fun _ _ _ _ => trivial), nOk_warm hW hNk⟩⟩ rfl rfl hl.1 rfl (lv_room hroom) hd hcs) hS (fun q _ h => hFc q h) hFc (fun v w1 t H1 locs1 ht hvm hw9 hP1 hK1 hD1 hz1 hk1 hS1 => ?_)
  rw [ht] at hP1
  obtain ⟨hP2, hD2⟩ := va_join hP hD isC isR hC (kq_fm hR) hnR hdis hk1 hFc hP1 hD1
  exact kk v w1 hw9 H1 locs1 ls hP2 hD2 hS1 hl
theorem k_callNS {y : MethodName} {host : String} {wsy ws' : List Cond} {rm : Room} {As rest : List Value} {wc : va_W} {RPc : Option Value → va_W → Prop} {ix maxL mc1 ms1 : Nat} {bytes : ByteArray} {ret : Option FieldType} (C : KC cc own Ts R nL D tys A l ini RP mc ms K) (hd : decode cc pc = .ok (.invokestatic ix, 3)) (hM : KM l D tys mc1 ms1 y wsy rm As wc RPc) (hG : GoodIn Ts wsy) (hlk : Cond.methodLinkNest own ix y host ∈ nW) (hini0 : Cond.initialized y.cls ∈ Ts) (hw : wsy = Cond.code y bytes maxL ret :: ws') (hsig : y.cls ≠ "java/lang/invoke/MethodHandle" ∧ y.cls ≠ "java/lang/invoke/VarHandle" ∧ (parseMethodDescriptor y.desc).map (fun d => d.parameters.length) = some As.length) (hi2 : Cond.static y ∈ Ts) (hst : st = As.reverse ++ rest) (hroom : ((rest.map fun v => v.category).sum ≤ 8)) (hrm : (rm.cells = mc1 ∧ rm.slots = ms1) ∧ (rm.frames + 1 ≤ R.frames ∧ 8 + (maxL + 11) + rm.locals ≤ R.locals)) (hcs : cs + mc1 ≤ R.cells ∧ sl + ms1 ≤ R.slots) (isC isR : List Nat) (hC : isC.map (fun i => ws[i]?) = wc.map some) (hnC : va_nd isC = true) (hR : isR.all (fun i => decide (i < ws.length)) = true) (hnR : va_nd isR = true) (hdis : ∀ i ∈ isR, i ∉ isC) (cs2 sl2 : Nat) (hc2 : cs + mc1 = cs2 ∧ sl + ms1 = sl2) (n : Nat) (hn : pc + 3 = n) (kk : ∀ v w1, RPc v w1 → K cs2 sl2 n lv (v.toList ++ rest) ((isR.filterMap (fun i => ws[i]?)) ++ w1)) : K cs sl pc lv st ws := by
  obtain ⟨p, e, s, m, args, below, meth, c, Q, ⟨hx, hb, hml, hown, hts⟩, hK, hA, hin, hNk, rfl, hret⟩ := C
  intro H locs ls hP hD hS hl
  subst hn
  subst hst
  obtain ⟨rfl, rfl⟩ := hc2
  have hDc : va_D A wc := hD.sub isC hnC hC
  have hPc : va_P D vwCl wc H := fun k q hk => by
    have h1 : (isC.map (fun i => ws[i]?))[k]? = some (some q) := by rw [hC, List.getElem?_map, hk]; rfl
    rw [List.getElem?_map] at h1
    cases hi : isC[k]? with
    | none => rw [hi] at h1; cases h1
    | some i => rw [hi] at h1; exact hP i q (Option.some.inj h1)
  have hFc := va_free (wc := wc) hD hS hA isC hC
  refine kq_call (va_runSN (As := As) (rest := rest) ⟨hx, hb, hml, hown, hts⟩ (hM H.size) ⟨va_cnB As.length hts hG hw hrm.1.1 hrm.1.2 (hNk _ hlk) (hts _ hini0) hsig hrm.2, hts _ hi2, trivial⟩ ⟨kq_blind, fun U hU hW => ⟨rfl, by rw [hU], by rw [hU]; exact hPc, va_K.moved hW.alike hK, hDc.weaken (fun _ _ _ _ => trivial), nOk_warm hW hNk⟩⟩ rfl rfl hl.1 rfl (lv_room hroom) hd hcs) hS (fun q _ h => hFc q h) hFc (fun v w1 t H1 locs1 ht hvm hw9 hP1 hK1 hD1 hz1 hk1 hS1 => ?_)
  rw [ht] at hP1
  obtain ⟨hP2, hD2⟩ := va_join hP hD isC isR hC (kq_fm hR) hnR hdis hk1 hFc hP1 hD1
  exact kk v w1 hw9 H1 locs1 ls hP2 hD2 hS1 hl
theorem k_callNI {y : MethodName} {host : String} {wsy ws' : List Cond} {rm : Room} {As rest : List Value} {wc : va_W} {RPc : Option Value → va_W → Prop} {ix maxL mc1 ms1 : Nat} {bytes : ByteArray} {ret : Option FieldType} {b : Nat} (C : KC cc own Ts R nL D tys A l ini RP mc ms K) (hd : decode cc pc = .ok (.invokespecial ix, 3)) (hM : KM l D tys mc1 ms1 y wsy rm (.ref b :: As) wc RPc) (hG : GoodIn Ts wsy) (hlk : Cond.methodLinkNest own ix y host ∈ nW) (hini0 : Cond.initialized y.cls ∈ Ts) (hw : wsy = Cond.code y bytes maxL none :: ws') (hsig : y.cls ≠ "java/lang/invoke/MethodHandle" ∧ y.cls ≠ "java/lang/invoke/VarHandle" ∧ (parseMethodDescriptor y.desc).map (fun d => d.parameters.length) = some As.length) (hi2 : Cond.instanceMethod y ∈ Ts) (hy1 : y.name = "<init>") (hst : st = As.reverse ++ .ref b :: rest) (hroom : ((rest.map fun v => v.category).sum ≤ 8)) (hrm : (rm.cells = mc1 ∧ rm.slots = ms1) ∧ (rm.frames + 1 ≤ R.frames ∧ 8 + (maxL + 11) + rm.locals ≤ R.locals)) (hcs : cs + mc1 ≤ R.cells ∧ sl + ms1 ≤ R.slots) (isC isR : List Nat) (hC : isC.map (fun i => ws[i]?) = wc.map some) (hnC : va_nd isC = true) (hR : isR.all (fun i => decide (i < ws.length)) = true) (hnR : va_nd isR = true) (hdis : ∀ i ∈ isR, i ∉ isC) (cs2 sl2 : Nat) (hc2 : cs + mc1 = cs2 ∧ sl + ms1 = sl2) (n : Nat) (hn : pc + 3 = n) (kk : ∀ v w1, RPc v w1 → K cs2 sl2 n lv (v.toList ++ rest) ((isR.filterMap (fun i => ws[i]?)) ++ w1)) : K cs sl pc lv st ws := by
  obtain ⟨p, e, s, m, args, below, meth, c, Q, ⟨hx, hb, hml, hown, hts⟩, hK, hA, hin, hNk, rfl, hret⟩ := C
  intro H locs ls hP hD hS hl
  subst hn
  subst hst
  obtain ⟨rfl, rfl⟩ := hc2
  have hDc : va_D A wc := hD.sub isC hnC hC
  have hPc : va_P D vwCl wc H := fun k q hk => by
    have h1 : (isC.map (fun i => ws[i]?))[k]? = some (some q) := by rw [hC, List.getElem?_map, hk]; rfl
    rw [List.getElem?_map] at h1
    cases hi : isC[k]? with
    | none => rw [hi] at h1; cases h1
    | some i => rw [hi] at h1; exact hP i q (Option.some.inj h1)
  have hFc := va_free (wc := wc) hD hS hA isC hC
  refine kq_call (va_runIN (As := As) (rest := rest) ⟨hx, hb, hml, hown, hts⟩ (hM H.size) ⟨va_cnB As.length hts hG hw hrm.1.1 hrm.1.2 (hNk _ hlk) (hts _ hini0) hsig hrm.2, hy1, hts _ hi2⟩ ⟨kq_blind, fun U hU hW => ⟨rfl, by rw [hU], by rw [hU]; exact hPc, va_K.moved hW.alike hK, hDc.weaken (fun _ _ _ _ => trivial), nOk_warm hW hNk⟩⟩ rfl rfl hl.1 rfl (lv_room hroom) hd hcs) hS (fun q _ h => hFc q h) hFc (fun v w1 t H1 locs1 ht hvm hw9 hP1 hK1 hD1 hz1 hk1 hS1 => ?_)
  rw [ht] at hP1
  obtain ⟨hP2, hD2⟩ := va_join hP hD isC isR hC (kq_fm hR) hnR hdis hk1 hFc hP1 hD1
  exact kk v w1 hw9 H1 locs1 ls hP2 hD2 hS1 hl
end KR
