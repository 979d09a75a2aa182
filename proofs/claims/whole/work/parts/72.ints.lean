/-! INTS: machine ints as images of integers -/
def iI (x : Int) : Int32 := Int32.ofInt x
/-- within an int -/
def zR (x : Int) : Prop := -2147483648 ≤ x ∧ x < 2147483648
theorem iI_toInt {x : Int} (h : zR x) : (iI x).toInt = x := by
  unfold iI
  exact Int32.toInt_ofInt_of_le h.1 h.2
theorem iI_nat (n : Nat) : iI (n : Int) = nI n := by
  unfold iI nI
  exact Int32.ofInt_eq_ofNat
theorem iI_add (x y : Int) : iI x + iI y = iI (x + y) := by unfold iI; rw [Int32.ofInt_add]
theorem iI_sub (x y : Int) : iI x - iI y = iI (x - y) := by unfold iI; rw [Int32.ofInt_sub]
theorem iI_mul (x y : Int) : iI x * iI y = iI (x * y) := by unfold iI; rw [Int32.ofInt_mul]
theorem iI_neg (x : Int) : - iI x = iI (- x) := by unfold iI; rw [Int32.ofInt_neg]
theorem iI_le {x y : Int} (hx : zR x) (hy : zR y) : iI x ≤ iI y ↔ x ≤ y := by rw [Int32.le_iff_toInt_le, iI_toInt hx, iI_toInt hy]
theorem iI_lt {x y : Int} (hx : zR x) (hy : zR y) : iI x < iI y ↔ x < y := by rw [Int32.lt_iff_toInt_lt, iI_toInt hx, iI_toInt hy]
theorem iI_eq {x y : Int} (hx : zR x) (hy : zR y) : iI x = iI y ↔ x = y := by
  constructor
  · intro h
    have := congrArg Int32.toInt h
    rwa [iI_toInt hx, iI_toInt hy] at this
  · intro h; rw [h]
theorem iI_clamp {x : Int} (h0 : 0 ≤ x) (h : x < 2147483648) : (iI x).toNatClampNeg = x.toNat := by
  show (iI x).toInt.toNat = x.toNat
  rw [iI_toInt ⟨by omega, h⟩]
theorem iI_of (x : Int32) : ∃ y : Int, zR y ∧ x = iI y := ⟨x.toInt, ⟨Int32.le_toInt x, Int32.toInt_lt x⟩, by unfold iI; rw [Int32.ofInt_toInt]⟩
theorem iI_lit (n : Nat) : (OfNat.ofNat n : Int32) = iI (n : Int) := by rw [iI_nat]; rfl
theorem iI_m1 : (-1 : Int32) = iI (-1) := rfl
/-- numbers of the text as images -/
theorem iI_0 : (0 : Int32) = iI 0 := rfl
theorem iI_1 : (1 : Int32) = iI 1 := rfl
theorem iI_8 : (8 : Int32) = iI 8 := rfl
theorem iI_div {x y : Int} (hx : zR x) (hy : 0 < y) (hy2 : y < 2147483648) : iI x / iI y = iI (x.tdiv y) := by
  have e1 := iI_toInt hx
  have e2 := iI_toInt (x := y) ⟨by omega, hy2⟩
  apply Int32.toInt_inj.mp
  rw [Int32.toInt_div_of_ne_right]
  · rw [e1, e2]
    have hb : zR (x.tdiv y) := by
      constructor
      · have h1 : -(x.natAbs : Int) ≤ x.tdiv y := by
          have := Int.natAbs_tdiv_le_natAbs x y
          omega
        have := hx.1; have := hx.2
        omega
      · have h1 : x.tdiv y ≤ (x.natAbs : Int) := by
          have := Int.natAbs_tdiv_le_natAbs x y
          omega
        by_cases h0 : 0 ≤ x
        · have := hx.2
          omega
        · have h3 := Int.neg_tdiv (-x) y
          rw [Int.neg_neg] at h3
          have h4 : 0 ≤ (-x).tdiv y := Int.tdiv_nonneg (by omega) (by omega)
          omega
    rw [iI_toInt hb]
  · intro h
    rw [h] at e2
    have : (-1 : Int32).toInt = -1 := by decide
    omega
theorem iI_rem {x y : Int} (hx : zR x) (hy : 0 < y) (hy2 : y < 2147483648) : iI x - iI x / iI y * iI y = iI (x.tmod y) := by
  rw [iI_div hx hy hy2, iI_mul, iI_sub]
  congr 1
  have := Int.tmod_add_mul_tdiv x y
  have h2 : x.tdiv y * y = y * x.tdiv y := Int.mul_comm _ _
  omega
theorem iI_ne0 {y : Int} (hy : 0 < y) (hy2 : y < 2147483648) : ¬ iI y = 0 := by
  intro h
  have := (iI_eq (x := y) (y := 0) ⟨by omega, hy2⟩ ⟨by omega, by omega⟩).mp h
  omega
theorem iI_remI {x y : Int} (hx : zR x) (hy : 0 < y) (hy2 : y < 2147483648) : zremI (iI x) (iI y) = some (iI (x.tmod y)) := by
  unfold zremI
  rw [if_neg (iI_ne0 hy hy2), iI_rem hx hy hy2]
theorem iI_divI {x y : Int} (hx : zR x) (hy : 0 < y) (hy2 : y < 2147483648) : zdivI (iI x) (iI y) = some (iI (x.tdiv y)) := by
  unfold zdivI
  rw [if_neg (iI_ne0 hy hy2), iI_div hx hy hy2]
theorem xor_sign (a b : Int32) : (0 ≤ a ^^^ b) ↔ ((0 ≤ a) ↔ (0 ≤ b)) := by
  rw [Int32.le_iff_toInt_le, Int32.le_iff_toInt_le, Int32.le_iff_toInt_le]
  have h0 : (0 : Int32).toInt = 0 := by decide
  rw [h0]
  have k : ∀ z : Int32, (0 ≤ z.toInt) ↔ z.toBitVec.msb = false := by
    intro z
    have h1 : z.toInt = z.toBitVec.toInt := rfl
    rw [h1, BitVec.toInt_eq_msb_cond]
    by_cases hm : z.toBitVec.msb = true
    · rw [if_pos hm]
      have h2 := z.toBitVec.isLt
      constructor
      · intro h; exfalso; omega
      · intro h; rw [hm] at h; cases h
    · rw [if_neg hm]
      constructor
      · intro _; simpa using hm
      · intro _; omega
  rw [k, k, k]
  have : (a ^^^ b).toBitVec.msb = (a.toBitVec.msb ^^ b.toBitVec.msb) := by
    rw [Int32.toBitVec_xor, BitVec.msb_xor]
  rw [this]
  cases a.toBitVec.msb <;> cases b.toBitVec.msb <;> simp
/-- floorMod by a number above 0 -/
theorem s_floorMod (n : Nat) (E : zE) (S : zS) {x y : Int} (M : zH) (hx : zR x) (hy : 0 < y) (hy2 : y < 2147483648) : F_Jm_floorMod n E S (iI x) (iI y) M = some (iI (x % y), M) := by
  unfold F_Jm_floorMod
  rw [iI_remI hx hy hy2]
  simp only [Option.bind_some]
  have hy0 : (0 : Int32) ≤ iI y := (iI_le (x := 0) ⟨by omega, by omega⟩ ⟨by omega, hy2⟩).mpr (by omega)
  have hm : x.tmod y = if 0 ≤ x then x % y else -((-x) % y) := by
    by_cases h : 0 ≤ x
    · rw [if_pos h, Int.tmod_eq_emod_of_nonneg h]
    · rw [if_neg h]
      have := Int.neg_tmod (-x) y
      rw [Int.neg_neg] at this
      rw [this, Int.tmod_eq_emod_of_nonneg (by omega)]
  have hb := Int.emod_nonneg x (by omega : y ≠ 0)
  have hb2 := Int.emod_lt_of_pos x hy
  by_cases h : (0 : Int32) ≤ iI x
  · rw [if_pos ((xor_sign _ _).mpr ⟨fun _ => hy0, fun _ => h⟩)]
    have h0 : 0 ≤ x := by
      have := (iI_le (x := 0) ⟨by omega, by omega⟩ hx).mp h
      exact this
    rw [hm, if_pos h0]
  · rw [if_neg (fun q => h (((xor_sign _ _).mp q).mpr hy0))]
    have h0 : x < 0 := by
      rcases Int.lt_or_le x 0 with q | q
      · exact q
      · exact absurd ((iI_le (x := 0) ⟨by omega, by omega⟩ hx).mpr q) h
    have hc := Int.emod_nonneg (-x) (by omega : y ≠ 0)
    have hc2 := Int.emod_lt_of_pos (-x) hy
    have hr : zR (x.tmod y) := by
      rw [hm, if_neg (by omega)]
      constructor <;> omega
    have key : (-x) % y = 0 ∧ x % y = 0 ∨ (0 < (-x) % y ∧ x % y = y - (-x) % y) := by
      have e1 := Int.emod_add_mul_ediv x y
      have e2 := Int.emod_add_mul_ediv (-x) y
      have hs : (x % y + (-x) % y) = y * (-(x / y) - (-x) / y) := by
        have : y * (-(x / y) - (-x) / y) = -(y * (x / y)) - y * ((-x) / y) := by rw [Int.mul_sub, Int.mul_neg]
        omega
      have hlt : x % y + (-x) % y < 2 * y := by omega
      have hge : 0 ≤ x % y + (-x) % y := by omega
      rcases (show (-(x / y) - (-x) / y) ≤ 0 ∨ (-(x / y) - (-x) / y) = 1 ∨ 2 ≤ (-(x / y) - (-x) / y) by omega) with q | q | q
      · have : y * (-(x / y) - (-x) / y) ≤ 0 := Int.mul_nonpos_of_nonneg_of_nonpos (by omega) q
        left; omega
      · rw [q] at hs
        by_cases hz : (-x) % y = 0
        · omega
        · right; omega
      · have : y * 2 ≤ y * (-(x / y) - (-x) / y) := Int.mul_le_mul_of_nonneg_left q (by omega)
        omega
    by_cases hz : iI (x.tmod y) = 0
    · rw [if_pos hz]
      have := (iI_eq hr (y := 0) ⟨by omega, by omega⟩).mp hz
      rw [hm, if_neg (by omega)] at this
      have hx0 : x % y = 0 := by omega
      rw [hm, if_neg (by omega), hx0, show (-x) % y = 0 by omega]
      rfl
    · rw [if_neg hz, iI_add]
      have hne : x.tmod y ≠ 0 := fun q => hz (by rw [q]; rfl)
      rw [hm, if_neg (by omega)] at hne ⊢
      congr 2
      congr 1
      omega
