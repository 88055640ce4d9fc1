/-! names put out -/
theorem zushr_nat (v : Int64) : ∀ k : Fin 8, (zlushr v (8 * ((k.val : Nat) : Int))).toBitVec.toNat = v.toBitVec.toNat / 256 ^ k.val := by
  intro k
  have e : ∀ k : Fin 8, ((zI (8 * ((k.val : Nat) : Int))).toInt64.toUInt64 &&& Int64.toUInt64 63).toBitVec % 64 = BitVec.ofNat 64 (8 * k.val) := by decide +kernel
  have h1 : (zlushr v (8 * ((k.val : Nat) : Int))).toBitVec = v.toBitVec >>> (8 * k.val) := by
    unfold zlushr
    show (v.toUInt64 >>> ((zI (8 * ((k.val : Nat) : Int))).toInt64.toUInt64 &&& Int64.toUInt64 63)).toBitVec = _
    rw [UInt64.toBitVec_shiftRight, e k, BitVec.ushiftRight_eq', BitVec.toNat_ofNat]
    have := k.isLt
    rw [Nat.mod_eq_of_lt (by omega)]
    rfl
  rw [h1, BitVec.toNat_ushiftRight, Nat.shiftRight_eq_div_pow, Nat.pow_mul]
theorem zby_nat (v : Int64) (k : Fin 8) : zby v (8 * ((k.val : Nat) : Int)) = ((v.toBitVec.toNat / 256 ^ k.val % 256 : Nat) : Int) := by
  have h := zushr_nat v k
  have hx : ∀ x : Int64, zand (zl2i x) 255 = ((x.toBitVec.toNat % 256 : Nat) : Int) := by
    intro x
    unfold zand
    rw [zI_l2i]
    have h1 : (x.toInt32 &&& zI 255).toBitVec.toNat = x.toBitVec.toNat % 256 := by
      rw [Int32.toBitVec_and, BitVec.toNat_and, show (zI 255).toBitVec.toNat = 2 ^ 8 - 1 by decide, Nat.and_two_pow_sub_one_eq_mod]
      have : x.toInt32.toBitVec.toNat = x.toBitVec.toNat % 2 ^ 32 := by
        rw [Int64.toBitVec_toInt32, BitVec.signExtend_eq_setWidth_of_le _ (by decide), BitVec.toNat_setWidth]
      rw [this]
      omega
    rw [← h1]
    have hlt : (x.toInt32 &&& zI 255).toBitVec.toNat < 256 := by rw [h1]; omega
    rw [← Int32.toInt_toBitVec, BitVec.toInt_eq_toNat_of_lt (by omega)]
  unfold zby
  rw [hx, h]
/-- the reference shifts with the sign: the same for a name -/
theorem zshr_eq (v : Int64) (hv : v.toBitVec.toNat < 2 ^ 63) : ∀ k : Fin 8, zlshr v (8 * ((k.val : Nat) : Int)) = zlushr v (8 * ((k.val : Nat) : Int)) := by
  intro k
  have e : ∀ k : Fin 8, ((zI (8 * ((k.val : Nat) : Int))).toInt64 &&& 63).toBitVec.smod 64 = BitVec.ofNat 64 (8 * k.val) := by decide +kernel
  have e2 : ∀ k : Fin 8, ((zI (8 * ((k.val : Nat) : Int))).toInt64.toUInt64 &&& Int64.toUInt64 63).toBitVec % 64 = BitVec.ofNat 64 (8 * k.val) := by decide +kernel
  have hk := k.isLt
  apply Int64.toBitVec_inj.1
  have h1 : (zlushr v (8 * ((k.val : Nat) : Int))).toBitVec = v.toBitVec >>> (8 * k.val) := by
    unfold zlushr
    show (v.toUInt64 >>> ((zI (8 * ((k.val : Nat) : Int))).toInt64.toUInt64 &&& Int64.toUInt64 63)).toBitVec = _
    rw [UInt64.toBitVec_shiftRight, e2 k, BitVec.ushiftRight_eq', BitVec.toNat_ofNat, Nat.mod_eq_of_lt (by omega)]
    rfl
  rw [h1]
  unfold zlshr
  rw [Int64.toBitVec_shiftRight, e k, BitVec.sshiftRight_eq', BitVec.toNat_ofNat, Nat.mod_eq_of_lt (by omega), BitVec.sshiftRight_eq_of_msb_false]
  rw [BitVec.msb_eq_false_iff_two_mul_lt]
  omega
/-- the letters of a name -/
theorem zpN_div (w : List Int) (h : ∀ k, 0 ≤ w.getD k 0 ∧ w.getD k 0 < 256) : ∀ (j k v : Nat), zpN w j k v / 256 ^ j = v := by
  intro j
  induction j with
  | zero => intro k v; rw [Nat.pow_zero, Nat.div_one]; rfl
  | succ j ih =>
    intro k v
    have hk := h k
    rw [zpN, Nat.pow_succ, ← Nat.div_div_eq_div_mul, ih]
    omega
theorem zpN_dig (w : List Int) (h : ∀ k, 0 ≤ w.getD k 0 ∧ w.getD k 0 < 256) : ∀ (j k v i : Nat), i < j → zpN w j k v / 256 ^ (j - 1 - i) % 256 = (w.getD (k + i) 0).toNat := by
  intro j
  induction j with
  | zero => intro k v i hi; omega
  | succ j ih =>
    intro k v i hi
    have hk := h k
    rw [zpN]
    cases i with
    | zero =>
      rw [show j + 1 - 1 - 0 = j by omega, zpN_div w h, Nat.add_zero]
      omega
    | succ i =>
      have := ih (k + 1) (v * 256 + (w.getD k 0).toNat) i (by omega)
      rw [show j + 1 - 1 - (i + 1) = j - 1 - i by omega, this, show k + 1 + i = k + (i + 1) by omega]
theorem zname_by {w : List Int} (h : zlw w) (j : Nat) (hj : j < 7) : zby (zpack w) (8 * ((6 - j : Nat) : Int)) = w.getD j 0 := by
  have hb := zby_nat (zpack w) ⟨6 - j, by omega⟩
  have hb' : zby (zpack w) (8 * ((6 - j : Nat) : Int)) = (((zpack w).toBitVec.toNat / 256 ^ (6 - j) % 256 : Nat) : Int) := hb
  have hd := zpN_dig w (zlw_in h) 7 0 0 j hj
  rw [hb', (zpack_nat h).1, show 6 - j = 7 - 1 - j by omega, hd, Nat.zero_add]
  have := zlw_in h j
  omega
theorem zname_56 {w : List Int} (h : zlw w) : zby (zpack w) 56 = 0 := by
  have hb := zby_nat (zpack w) ⟨7, by omega⟩
  have hb' : zby (zpack w) 56 = (((zpack w).toBitVec.toNat / 256 ^ 7 % 256 : Nat) : Int) := hb
  have hn := zpack_nat h
  rw [hb', hn.1, Nat.div_eq_of_lt hn.2]
  rfl
def zblt (w : List Int) : Nat → Nat → List Int
  | 0, _ => []
  | j + 1, k => if w.getD k 0 = 0 then zblt w j (k + 1) else w.getD k 0 :: zblt w j (k + 1)
theorem addPacked_loop (F : Nat) {w : List Int} (hw : zlw w) {t : Nat} : ∀ (j k n : Nat) (u : ZC) (acc : List Int), j + k = 7 → j < n → zlT u t → cN u t ≤ 200 → zH u t acc → ∃ u2, cText_addPacked_3 F n u t (zpack w) (8 * ((6 : Int) - (k : Int))) = some u2 ∧ zH u2 t (acc ++ zblt w j k) ∧ zFr t t 0 0 u u2 := by
  intro j
  induction j with
  | zero =>
    intro k n u acc hk hn hl hc hH
    obtain ⟨n, rfl⟩ : ∃ n', n = n' + 1 := ⟨n - 1, by omega⟩
    refine ⟨u, ?_, by rw [zblt, List.append_nil]; exact hH, zFr_rf _ _ _ _ u⟩
    rw [cText_addPacked_3, if_pos (by rw [zI_lt0 (by omega) (by omega)]; omega)]
  | succ j ih =>
    intro k n u acc hk hn hl hc hH
    obtain ⟨n, rfl⟩ : ∃ n', n = n' + 1 := ⟨n - 1, by omega⟩
    have hby : zby (zpack w) (8 * ((6 : Int) - (k : Int))) = w.getD k 0 := by
      have := zname_by hw k (by omega)
      rw [← this]
      congr 1
      omega
    have hin := zlw_in hw k
    rw [cText_addPacked_3, if_neg (by rw [zI_lt0 (by omega) (by omega)]; omega), zby_chr, hby, zblt]
    have es : (8 * ((6 : Int) - (k : Int))) + (-8) = 8 * ((6 : Int) - ((k + 1 : Nat) : Int)) := by omega
    rw [es]
    by_cases h0 : w.getD k 0 = 0
    · rw [if_pos (by rw [h0]; decide), if_pos h0]
      exact ih (k + 1) n u acc (by omega) (by omega) hl hc hH
    · have hkl : k < w.length := by
        apply Classical.byContradiction
        intro hh
        exact h0 (zlw_out w k (by omega))
      obtain ⟨u1, c1, c2, c3⟩ := add_is F hl hc hH (w.getD k 0) (Or.inr (zlw_get hw k hkl))
      rw [if_neg (by rw [zI_eq0 (by omega) (by omega)]; exact h0), if_pos hl, c1, if_neg h0]
      obtain ⟨u2, d1, d2, d3⟩ := ih (k + 1) n u1 (acc ++ [w.getD k 0]) (by omega) (by omega) (zlT_keep c3.2.2.2.2.2 hl) (by rw [c3.2.2.2.2.1]; exact hc) c2
      refine ⟨u2, d1, ?_, zFr_tr c3 d3⟩
      rw [List.append_assoc] at d2
      exact d2
theorem addPacked_is (F : Nat) (hF : 20 ≤ F) {w : List Int} (hw : zlw w) {t : Nat} {u : ZC} {acc : List Int} (hl : zlT u t) (hc : cN u t ≤ 200) (hH : zH u t acc) : ∃ u2, cText_addPacked F u t (zpack w) = some u2 ∧ zH u2 t (acc ++ zblt w 7 0) ∧ zFr t t 0 0 u u2 := by
  obtain ⟨F', rfl⟩ : ∃ F', F = F' + 1 := ⟨F - 1, by omega⟩
  obtain ⟨u2, c1, c2, c3⟩ := addPacked_loop (F' + 1) hw 7 0 F' u acc (by omega) (by omega) hl hc hH
  refine ⟨u2, ?_, c2, c3⟩
  unfold cText_addPacked
  rw [cText_addPacked_3, if_neg (by decide), zby_chr, zname_56 hw, if_pos (by decide)]
  exact c1
theorem emitName_loop (F : Nat) {w : List Int} (hw : zlw w) : ∀ (j k n : Nat) (r : ZR) (acc : List Int), j + k = 7 → j < n → zHr r acc → ∃ r2, r_emitName_3 F n r (zpack w) ((6 : Int) - (k : Int)) = some r2 ∧ zHr r2 (acc ++ zblt w j k) ∧ zq [35, 36] [34] r r2 := by
  have hn := zpack_nat hw
  have h63 : (zpack w).toBitVec.toNat < 2 ^ 63 := by
    rw [hn.1]
    have : (256 : Nat) ^ 7 < 2 ^ 63 := by decide
    have := hn.2
    omega
  intro j
  induction j with
  | zero =>
    intro k n r acc hk hn2 hH
    obtain ⟨n, rfl⟩ : ∃ n', n = n' + 1 := ⟨n - 1, by omega⟩
    refine ⟨r, ?_, by rw [zblt, List.append_nil]; exact hH, zq_rf _ _ r⟩
    rw [r_emitName_3, if_pos (by rw [zI_lt0 (by omega) (by omega)]; omega)]
  | succ j ih =>
    intro k n r acc hk hn2 hH
    obtain ⟨n, rfl⟩ : ∃ n', n = n' + 1 := ⟨n - 1, by omega⟩
    have hsh : zlshr (zpack w) (8 * ((6 : Int) - (k : Int))) = zlushr (zpack w) (8 * ((6 : Int) - (k : Int))) := by
      have := zshr_eq (zpack w) h63 ⟨6 - k, by omega⟩
      have e : (8 * ((6 : Int) - (k : Int))) = 8 * (((⟨6 - k, by omega⟩ : Fin 8).val : Nat) : Int) := by
        show _ = 8 * ((6 - k : Nat) : Int)
        omega
      rw [e]
      exact this
    have hby : zand (zl2i (zlshr (zpack w) (8 * ((6 : Int) - (k : Int))))) 255 = w.getD k 0 := by
      rw [hsh]
      have := zname_by hw k (by omega)
      rw [← this]
      show zby (zpack w) (8 * ((6 : Int) - (k : Int))) = _
      congr 1
      omega
    have hin := zlw_in hw k
    rw [r_emitName_3, if_neg (by rw [zI_lt0 (by omega) (by omega)]; omega), hby, zblt]
    have es : ((6 : Int) - (k : Int)) + (-1) = (6 : Int) - ((k + 1 : Nat) : Int) := by omega
    rw [es]
    by_cases h0 : w.getD k 0 = 0
    · rw [if_pos (by rw [h0]; decide), if_pos h0]
      exact ih (k + 1) n r acc (by omega) (by omega) hH
    · obtain ⟨r1, c1, c2, c3⟩ := emit_is F hH (w.getD k 0)
      rw [if_neg (by rw [zI_eq0 (by omega) (by omega)]; exact h0), c1, if_neg h0]
      obtain ⟨r2, d1, d2, d3⟩ := ih (k + 1) n r1 (acc ++ [w.getD k 0]) (by omega) (by omega) c2
      refine ⟨r2, d1, ?_, zq_tr c3 d3⟩
      rw [List.append_assoc] at d2
      exact d2
theorem emitName_is (F : Nat) (hF : 20 ≤ F) {w : List Int} (hw : zlw w) {r : ZR} {acc : List Int} (hH : zHr r acc) : ∃ r2, r_emitName F r (zpack w) = some r2 ∧ zHr r2 (acc ++ zblt w 7 0) ∧ zq [35, 36] [34] r r2 := emitName_loop F hw 7 0 F r acc (by omega) (by omega) hH
