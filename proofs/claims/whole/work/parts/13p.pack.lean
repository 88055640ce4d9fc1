/-! up to seven letters in a long -/
def zpl (w : List Int) : Nat → Nat → Int64 → Int64
  | 0, _, v => v
  | j + 1, k, v => zpl w j (k + 1) ((zlshl v 8) ||| (zi2l (w.getD k 0)))
def zpack (w : List Int) : Int64 := zpl w 7 0 0
def zpN (w : List Int) : Nat → Nat → Nat → Nat
  | 0, _, v => v
  | j + 1, k, v => zpN w j (k + 1) (v * 256 + (w.getD k 0).toNat)
theorem zsh8 (v : Int64) : (zlshl v 8).toBitVec = v.toBitVec <<< 8 := by
  unfold zlshl
  rw [show (zI 8).toInt64 &&& 63 = 8 by decide, Int64.toBitVec_shiftLeft]
  rfl
theorem zi2l_nat (c : Int) (h : 0 ≤ c ∧ c < 256) : (zi2l c).toBitVec.toNat = c.toNat := by
  obtain ⟨n, rfl⟩ : ∃ n : Nat, c = (n : Int) := ⟨c.toNat, by omega⟩
  have hn : n < 256 := by omega
  revert hn
  have : ∀ n : Fin 256, (zi2l ((n.val : Nat) : Int)).toBitVec.toNat = ((n.val : Nat) : Int).toNat := by decide +kernel
  intro hn
  exact this ⟨n, hn⟩
theorem zstep_nat (v : Int64) (c : Int) (hv : v.toBitVec.toNat < 2 ^ 56) (h : 0 ≤ c ∧ c < 256) : ((zlshl v 8) ||| (zi2l c)).toBitVec.toNat = v.toBitVec.toNat * 256 + c.toNat := by
  rw [Int64.toBitVec_or, BitVec.toNat_or, zsh8, BitVec.toNat_shiftLeft, zi2l_nat c h]
  have e : v.toBitVec.toNat <<< 8 % 2 ^ 64 = v.toBitVec.toNat <<< 8 := by
    rw [Nat.shiftLeft_eq]
    apply Nat.mod_eq_of_lt
    omega
  rw [e, ← Nat.shiftLeft_add_eq_or_of_lt (by omega), Nat.shiftLeft_eq]
theorem zpl_nat (w : List Int) (hw : ∀ k, 0 ≤ w.getD k 0 ∧ w.getD k 0 < 256) : ∀ (j k : Nat) (v : Int64), j ≤ 7 → v.toBitVec.toNat < 256 ^ (7 - j) → (zpl w j k v).toBitVec.toNat = zpN w j k v.toBitVec.toNat ∧ zpN w j k v.toBitVec.toNat < 256 ^ 7 := by
  intro j
  induction j with
  | zero => intro k v _ h; exact ⟨rfl, h⟩
  | succ j ih =>
    intro k v hj h
    have hb : v.toBitVec.toNat < 2 ^ 56 := by
      have : 256 ^ (7 - (j + 1)) ≤ 256 ^ 6 := Nat.pow_le_pow_right (by omega) (by omega)
      have e : (256 : Nat) ^ 6 ≤ 2 ^ 56 := by decide
      omega
    have hs := zstep_nat v (w.getD k 0) hb (hw k)
    have hlt : ((zlshl v 8) ||| (zi2l (w.getD k 0))).toBitVec.toNat < 256 ^ (7 - j) := by
      rw [hs, show 7 - j = (7 - (j + 1)) + 1 by omega, Nat.pow_succ]
      have := (hw k).2
      have := (hw k).1
      generalize 256 ^ (7 - (j + 1)) = M at h
      omega
    have := ih (k + 1) _ (by omega) hlt
    rw [hs] at this
    exact this
theorem zpN_inj (w w2 : List Int) (hw : ∀ k, 0 ≤ w.getD k 0 ∧ w.getD k 0 < 256) (hw2 : ∀ k, 0 ≤ w2.getD k 0 ∧ w2.getD k 0 < 256) : ∀ (j k v v2 : Nat), zpN w j k v = zpN w2 j k v2 → v = v2 ∧ ∀ i, k ≤ i → i < k + j → w.getD i 0 = w2.getD i 0 := by
  intro j
  induction j with
  | zero => intro k v v2 h; exact ⟨h, fun i h1 h2 => by omega⟩
  | succ j ih =>
    intro k v v2 h
    obtain ⟨h1, h2⟩ := ih (k + 1) _ _ h
    have a := hw k
    have b := hw2 k
    refine ⟨by omega, fun i h3 h4 => ?_⟩
    by_cases hi : i = k
    · rw [hi]; omega
    · exact h2 i (by omega) (by omega)
/-- letters of a word -/
def zlw (w : List Int) : Prop := ∀ x ∈ w, 32 ≤ x ∧ x ≤ 126
theorem zlw_get {w : List Int} (h : zlw w) (i : Nat) (hi : i < w.length) : 32 ≤ w.getD i 0 ∧ w.getD i 0 ≤ 126 := by
  rw [List.getD_eq_getElem?_getD, List.getElem?_eq_getElem hi]
  exact h _ (List.getElem_mem _)
theorem zlw_out (w : List Int) (i : Nat) (hi : w.length ≤ i) : w.getD i 0 = 0 := by
  rw [List.getD_eq_getElem?_getD, List.getElem?_eq_none hi]
  rfl
theorem zlw_in {w : List Int} (h : zlw w) (i : Nat) : 0 ≤ w.getD i 0 ∧ w.getD i 0 < 256 := by
  by_cases hi : i < w.length
  · have := zlw_get h i hi
    omega
  · rw [zlw_out w i (by omega)]
    omega
theorem zpack_nat {w : List Int} (h : zlw w) : (zpack w).toBitVec.toNat = zpN w 7 0 0 ∧ zpN w 7 0 0 < 256 ^ 7 := zpl_nat w (zlw_in h) 7 0 0 (Nat.le_refl _) (by decide)
theorem zpack_inj {w w2 : List Int} (h : zlw w) (h2 : zlw w2) (hl : w.length ≤ 7) (hl2 : w2.length ≤ 7) (e : zpack w = zpack w2) : w = w2 := by
  have a := zpack_nat h
  have b := zpack_nat h2
  have hn : zpN w 7 0 0 = zpN w2 7 0 0 := by rw [← a.1, ← b.1, e]
  have hg := (zpN_inj w w2 (zlw_in h) (zlw_in h2) 7 0 0 0 hn).2
  have hlen : w.length = w2.length := by
    apply Classical.byContradiction
    intro hne
    by_cases hlt : w.length < w2.length
    · have h1 := hg w.length (Nat.zero_le _) (by omega)
      have h3 := zlw_get h2 w.length hlt
      rw [zlw_out w w.length (Nat.le_refl _)] at h1
      omega
    · have h1 := hg w2.length (Nat.zero_le _) (by omega)
      have h3 := zlw_get h w2.length (by omega)
      rw [zlw_out w2 w2.length (Nat.le_refl _)] at h1
      omega
  apply List.ext_getElem hlen
  intro i hi hi2
  have := hg i (Nat.zero_le _) (by omega)
  rw [List.getD_eq_getElem?_getD, List.getElem?_eq_getElem hi, List.getD_eq_getElem?_getD, List.getElem?_eq_getElem hi2] at this
  exact this
theorem zpack_ne {w : List Int} (h : zlw w) : zpack w ≠ -1 := by
  intro e
  have a := zpack_nat h
  have : ((-1 : Int64)).toBitVec.toNat = 18446744073709551615 := by decide
  rw [e, this] at a
  have : (256 : Nat) ^ 7 < 18446744073709551615 := by decide
  omega
/-- a word as the reference packs it -/
def zPk (w : List Int) : Int64 := if w.length ≤ 7 then zpack w else -1
theorem zPk_eq {w w2 : List Int} (h : zlw w) (h2 : zlw w2) (hl2 : w2.length ≤ 7) : zPk w = zpack w2 ↔ w = w2 := by
  unfold zPk
  constructor
  · intro e
    by_cases hl : w.length ≤ 7
    · rw [if_pos hl] at e
      exact zpack_inj h h2 hl hl2 e
    · rw [if_neg hl] at e
      exact absurd e.symm (zpack_ne h2)
  · intro e
    rw [e, if_pos hl2]
/-- the class's way: letter by letter, then to the left -/
def zpc (w : List Int) (v : Int64) : Int64 := w.foldl (fun v c => (zlshl v 8) ||| (zi2l c)) v
theorem zlshl_0 (v : Int64) : zlshl v 0 = v := by
  unfold zlshl
  rw [show (zI 0).toInt64 &&& 63 = 0 by decide]
  apply Int64.toBitVec_inj.1
  rw [Int64.toBitVec_shiftLeft]
  show v.toBitVec <<< 0 = v.toBitVec
  exact BitVec.shiftLeft_zero _
theorem zlshl_bv : ∀ a : Fin 8, ∀ v : Int64, (zlshl v (8 * ((a.val : Nat) : Int))).toBitVec = v.toBitVec <<< (8 * a.val) := by
  intro a v
  unfold zlshl
  have e : ∀ a : Fin 8, (zI (8 * ((a.val : Nat) : Int))).toInt64 &&& 63 = Int64.ofNat (8 * a.val) := by decide +kernel
  have e2 : ∀ a : Fin 8, ((Int64.ofNat (8 * a.val)).toBitVec.smod 64) = BitVec.ofNat 64 (8 * a.val) := by decide +kernel
  rw [e a, Int64.toBitVec_shiftLeft, e2 a, BitVec.shiftLeft_eq', BitVec.toNat_ofNat]
  congr 1
  have := a.isLt
  omega
theorem zlshl_step (v : Int64) (a : Nat) (ha : a + 1 < 8) : (zlshl (zlshl v (8 * (a : Int))) 8) ||| (zi2l 0) = zlshl v (8 * ((a + 1 : Nat) : Int)) := by
  apply Int64.toBitVec_inj.1
  rw [Int64.toBitVec_or, zsh8, zlshl_bv ⟨a, by omega⟩, zlshl_bv ⟨a + 1, ha⟩, show (zi2l 0).toBitVec = 0#64 by decide, BitVec.or_zero, ← BitVec.shiftLeft_add]
  congr 1
theorem zpl_tail (w : List Int) (v : Int64) : ∀ (j k a : Nat), w.length ≤ k → a + j < 8 → zpl w j k (zlshl v (8 * (a : Int))) = zlshl v (8 * ((a + j : Nat) : Int)) := by
  intro j
  induction j with
  | zero => intro k a _ _; rfl
  | succ j ih =>
    intro k a hk ha
    rw [zpl, zlw_out w k hk, zlshl_step v a (by omega), ih (k + 1) (a + 1) (by omega) (by omega), show a + 1 + j = a + (j + 1) by omega]
theorem zpl_head (w : List Int) : ∀ (x : List Int) (k j : Nat) (v : Int64), w.drop k = x → zpl w (x.length + j) k v = zpl w j (k + x.length) (zpc x v) := by
  intro x
  induction x with
  | nil =>
    intro k j v h
    simp [zpc]
  | cons c x ih =>
    intro k j v h
    have hk : k < w.length := by
      apply Classical.byContradiction
      intro hc
      rw [List.drop_eq_nil_of_le (by omega)] at h
      cases h
    have hd : w.drop (k + 1) = x := by
      rw [List.drop_add_one_eq_tail_drop, h]
      rfl
    have hg : w.getD k 0 = c := by
      have : (w.drop k)[0]? = some c := by rw [h]; rfl
      rw [List.getElem?_drop, Nat.add_zero] at this
      rw [List.getD_eq_getElem?_getD, this]
      rfl
    rw [List.length_cons, show x.length + 1 + j = (x.length + j) + 1 by omega, zpl, hg, ih (k + 1) j _ hd]
    rw [show k + 1 + x.length = k + (x.length + 1) by omega]
    rfl
theorem zpc_pack (w : List Int) (h : w.length ≤ 7) : zlshl (zpc w 0) (8 * (7 - (w.length : Int))) = zpack w := by
  have h1 := zpl_head w w 0 (7 - w.length) 0 rfl
  rw [show w.length + (7 - w.length) = 7 by omega, Nat.zero_add] at h1
  have h2 := zpl_tail w (zpc w 0) (7 - w.length) w.length 0 (Nat.le_refl _) (by omega)
  rw [show (8 * ((0 : Nat) : Int)) = 0 by decide, zlshl_0, Nat.zero_add] at h2
  unfold zpack
  rw [h1, h2, show (7 - (w.length : Int)) = ((7 - w.length : Nat) : Int) by omega]
/-- a letter of a name; a name -/
def zNl (x : Int) : Prop := (97 ≤ x ∧ x ≤ 122) ∨ (48 ≤ x ∧ x ≤ 57) ∨ x = 95 ∨ x = 46
def zNm (v : Int64) : Prop := ∃ w : List Int, 1 ≤ w.length ∧ w.length ≤ 7 ∧ (∀ x ∈ w, zNl x) ∧ v = zpack w
