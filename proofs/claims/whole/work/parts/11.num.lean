/-! comparisons of numbers in the range -/
theorem zI_z : (0 : Int32) = zI 0 := by decide
theorem zI_lt0 {a : Int} (h : -2147483648 ≤ a) (h2 : a < 2147483648) : zI a < 0 ↔ a < 0 := by
  rw [zI_z, zI_lt h h2 (by omega) (by omega)]
theorem zI_0lt {a : Int} (h : -2147483648 ≤ a) (h2 : a < 2147483648) : 0 < zI a ↔ 0 < a := by
  rw [zI_z, zI_lt (by omega) (by omega) h h2]
theorem zI_le0 {a : Int} (h : -2147483648 ≤ a) (h2 : a < 2147483648) : zI a ≤ 0 ↔ a ≤ 0 := by
  rw [zI_z, zI_le h h2 (by omega) (by omega)]
theorem zI_0le {a : Int} (h : -2147483648 ≤ a) (h2 : a < 2147483648) : 0 ≤ zI a ↔ 0 ≤ a := by
  rw [zI_z, zI_le (by omega) (by omega) h h2]
theorem zI_eq0 {a : Int} (h : -2147483648 ≤ a) (h2 : a < 2147483648) : zI a = 0 ↔ a = 0 := by
  rw [zI_z, zI_eq h h2 (by omega) (by omega)]
theorem zI_eq33 {a : Int} (h : -2147483648 ≤ a) (h2 : a < 2147483648) : zI a = 33 ↔ a = 33 := by
  rw [show (33 : Int32) = zI 33 by decide, zI_eq h h2 (by omega) (by omega)]
theorem zI_eq38 {a : Int} (h : -2147483648 ≤ a) (h2 : a < 2147483648) : zI a = 38 ↔ a = 38 := by
  rw [show (38 : Int32) = zI 38 by decide, zI_eq h h2 (by omega) (by omega)]
theorem zI_eq40 {a : Int} (h : -2147483648 ≤ a) (h2 : a < 2147483648) : zI a = 40 ↔ a = 40 := by
  rw [show (40 : Int32) = zI 40 by decide, zI_eq h h2 (by omega) (by omega)]
theorem zI_eq41 {a : Int} (h : -2147483648 ≤ a) (h2 : a < 2147483648) : zI a = 41 ↔ a = 41 := by
  rw [show (41 : Int32) = zI 41 by decide, zI_eq h h2 (by omega) (by omega)]
theorem zI_eq59 {a : Int} (h : -2147483648 ≤ a) (h2 : a < 2147483648) : zI a = 59 ↔ a = 59 := by
  rw [show (59 : Int32) = zI 59 by decide, zI_eq h h2 (by omega) (by omega)]
theorem zI_eq60 {a : Int} (h : -2147483648 ≤ a) (h2 : a < 2147483648) : zI a = 60 ↔ a = 60 := by
  rw [show (60 : Int32) = zI 60 by decide, zI_eq h h2 (by omega) (by omega)]
theorem zI_eq62 {a : Int} (h : -2147483648 ≤ a) (h2 : a < 2147483648) : zI a = 62 ↔ a = 62 := by
  rw [show (62 : Int32) = zI 62 by decide, zI_eq h h2 (by omega) (by omega)]
theorem zI_eq124 {a : Int} (h : -2147483648 ≤ a) (h2 : a < 2147483648) : zI a = 124 ↔ a = 124 := by
  rw [show (124 : Int32) = zI 124 by decide, zI_eq h h2 (by omega) (by omega)]
/-- byte of a long at a shift -/
def zby (v : Int64) (s : Int) : Int := zand (zl2i (zlushr v s)) 255
theorem zI_l2i (x : Int64) : zI (zl2i x) = x.toInt32 := zI_of _
theorem zand_255 (a : Int) : 0 ≤ zand a 255 ∧ zand a 255 < 256 := by
  have h : (zI a &&& zI 255).toBitVec.toNat < 256 := by
    rw [Int32.toBitVec_and, BitVec.toNat_and]
    exact Nat.lt_of_le_of_lt Nat.and_le_right (by decide)
  have e : (zI a &&& zI 255).toInt = ((zI a &&& zI 255).toBitVec.toNat : Int) := by
    rw [← Int32.toInt_toBitVec, BitVec.toInt_eq_toNat_of_lt (by omega)]
  show 0 ≤ (zI a &&& zI 255).toInt ∧ (zI a &&& zI 255).toInt < 256
  omega
theorem zby_in (v : Int64) (s : Int) : 0 ≤ zby v s ∧ zby v s < 256 := zand_255 _
theorem zby_chr (v : Int64) (s : Int) : zchr (zl2i ((zlushr v s) &&& (255 : Int64))) = zby v s := by
  unfold zchr zby zand
  rw [zI_l2i, zI_l2i, Int64.toInt32_and]
  rw [show (255 : Int64).toInt32 = 255 by decide, show zI 255 = 255 by decide, sc_c2]
