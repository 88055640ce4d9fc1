/-! a word is one of the names of tools -/
theorem zgE (w : List Int) (i : Nat) (h : i < w.length) : w.getD i 0 = w[i] := by
  rw [List.getD_eq_getElem?_getD, List.getElem?_eq_getElem h]
  rfl
theorem zext {v w : List Int} (h : v.length = w.length) (hg : ∀ i, i < v.length → v.getD i 0 = w.getD i 0) : v = w := by
  apply List.ext_getElem h
  intro i hi hi2
  rw [← zgE v i hi, ← zgE w i hi2]
  exact hg i hi
theorem startOf_is (F : Nat) {u : ZC} {ws : List (List Int)} (H : zW u ws) (k : Nat) (hk : k ≤ 64) : cWords_startOf F u (k : Int) = some (if k ≤ ws.length then (zst ws k : Int) else 0) := by
  obtain ⟨w1, w2, w3, w4, w5⟩ := H
  unfold cWords_startOf
  rw [w1]
  simp (disch := omega) only [zI_lt, zI_le, zI_eq, zI_eq0, zI_lt0, zI_0lt, zI_le0, zI_0le, zI_eq33, zI_eq38, zI_eq40, zI_eq41, zI_eq59, zI_eq60, zI_eq62, zI_eq124]
  by_cases h0 : k = 0
  · subst h0
    rw [if_pos (by omega), if_pos (Nat.zero_le _)]
    rfl
  · rw [if_neg (by omega)]
    by_cases h : k ≤ ws.length
    · rw [if_neg (by omega), if_pos h]
      simp only [Option.bind_some, reduceCtorEq, if_false, if_pos (show zix ((k : Int) - 1) 64 from ⟨by omega, by omega, by omega⟩)]
      rw [show ((k : Int) - 1).toNat = k - 1 by omega, w5 (k - 1) (by omega), show k - 1 + 1 = k by omega]
    · rw [if_pos (by omega), if_neg h]
      rfl
theorem endOf_is (F : Nat) {u : ZC} {ws : List (List Int)} (H : zW u ws) (k : Nat) (hk : k ≤ 64) : cWords_endOf F u (k : Int) = some (if k < ws.length then (zst ws (k + 1) : Int) else 0) := by
  obtain ⟨w1, w2, w3, w4, w5⟩ := H
  unfold cWords_endOf
  rw [w1]
  simp (disch := omega) only [zI_lt, zI_le, zI_eq, zI_eq0, zI_lt0, zI_0lt, zI_le0, zI_0le, zI_eq33, zI_eq38, zI_eq40, zI_eq41, zI_eq59, zI_eq60, zI_eq62, zI_eq124]
  rw [if_neg (by omega)]
  by_cases h : k < ws.length
  · rw [if_neg (by omega), if_pos h]
    simp only [Option.bind_some, reduceCtorEq, if_false, if_pos (show zix (k : Int) 64 from ⟨by omega, by omega, by omega⟩)]
    rw [Int.toNat_natCast, w5 k h]
  · rw [if_pos (by omega), if_neg h]
    rfl
theorem zst_mono (ws : List (List Int)) (k : Nat) (h : k < ws.length) : zst ws k ≤ zst ws (k + 1) ∧ zst ws (k + 1) ≤ ws.flatten.length ∧ zst ws (k + 1) - zst ws k = (ws.getD k []).length := by
  have h1 := zst_succ ws k h
  have h2 := zst_le ws (k + 1)
  omega
theorem zsl_word (ws : List (List Int)) (k : Nat) (h : k < ws.length) : zsl ws.flatten (zst ws k) (zst ws (k + 1)) = ws.getD k [] := by
  obtain ⟨h1, h2, h3⟩ := zst_mono ws k h
  apply List.ext_getElem
  · rw [zsl_len _ _ _ h2, h3]
  · intro i hi hi2
    have e1 := zsl_get ws.flatten (zst ws k) (zst ws (k + 1)) i (by omega)
    rw [zst_get ws k i h hi2] at e1
    rw [List.getD_eq_getElem?_getD, List.getElem?_eq_getElem hi, List.getD_eq_getElem?_getD, List.getElem?_eq_getElem hi2] at e1
    exact e1
/-- all letters of the words -/
def zwl (ws : List (List Int)) : Prop := ∀ w ∈ ws, zlw w
theorem zwl_get {ws : List (List Int)} (h : zwl ws) (k : Nat) : zlw (ws.getD k []) := by
  by_cases hk : k < ws.length
  · rw [List.getD_eq_getElem?_getD, List.getElem?_eq_getElem hk]
    exact h _ (List.getElem_mem _)
  · rw [List.getD_eq_getElem?_getD, List.getElem?_eq_none (by omega)]
    intro x hx
    cases hx
theorem zwl_flat {ws : List (List Int)} (h : zwl ws) : zlw ws.flatten := by
  intro x hx
  obtain ⟨w, hw, hx⟩ := List.mem_flatten.1 hx
  exact h w hw x hx
theorem packed_loop2 (F : Nat) {r : ZR} {fl : List Int} (hfl : fl.length ≤ 96) (hL : zlw fl) (H : zRA r 20 0 fl) (a b : Nat) (hab : a ≤ b) (hb : b ≤ fl.length) : ∀ (j k n : Nat) (v : Int64), j + k = 7 → j < n → r_packed_17 F n r (a : Int) (b : Int) v (k : Int) = some (zpl (zsl fl a b) j k v) := by
  intro j
  induction j with
  | zero =>
    intro k n v hk hn
    obtain ⟨n, rfl⟩ : ∃ n', n = n' + 1 := ⟨n - 1, by omega⟩
    rw [r_packed_17, if_pos (by rw [zI_le (by omega) (by omega) (by omega) (by omega)]; omega)]
    rfl
  | succ j ih =>
    intro k n v hk hn
    obtain ⟨n, rfl⟩ : ∃ n', n = n' + 1 := ⟨n - 1, by omega⟩
    have hlen := zsl_len fl a b hb
    rw [r_packed_17, if_neg (by rw [zI_le (by omega) (by omega) (by omega) (by omega)]; omega), zpl, show (k : Int) + 1 = ((k + 1 : Nat) : Int) by omega]
    by_cases h : b ≤ a + k
    · rw [if_pos (by rw [zI_le (by omega) (by omega) (by omega) (by omega)]; omega), zlw_out (zsl fl a b) k (by omega)]
      simp only [Option.bind_some]
      exact ih (k + 1) n _ (by omega) (by omega)
    · rw [if_neg (by rw [zI_le (by omega) (by omega) (by omega) (by omega)]; omega), if_pos (show zix ((a : Int) + (k : Int)) 200 from ⟨by omega, by omega, by omega⟩)]
      have e := H (a + k) (by omega)
      rw [Nat.zero_add] at e
      simp only [Option.bind_some, show ((a : Int) + (k : Int)).toNat = a + k by omega, e, zsl_get fl a b k (by omega)]
      exact ih (k + 1) n _ (by omega) (by omega)
theorem packed_is (F : Nat) (hF : 10 ≤ F) {r : ZR} {fl : List Int} (hfl : fl.length ≤ 96) (hL : zlw fl) (H : zRA r 20 0 fl) (a b : Nat) (hab : a ≤ b) (hb : b ≤ fl.length) : r_packed F r (a : Int) (b : Int) = some (zPk (zsl fl a b)) := by
  have hlen := zsl_len fl a b hb
  unfold r_packed zPk
  rw [hlen]
  by_cases h : b - a ≤ 7
  · rw [if_pos h, if_pos (by rw [zI_le (by omega) (by omega) (by omega) (by omega)]; omega)]
    exact packed_loop2 F hfl hL H a b hab hb 7 0 F 0 rfl (by omega)
  · rw [if_neg h, if_neg (by rw [zI_le (by omega) (by omega) (by omega) (by omega)]; omega)]
theorem wordAs_is (F : Nat) (hF : 10 ≤ F) {r : ZR} {ws : List (List Int)} (hl : zwl ws) (H : zWr r ws) (k : Nat) (hk : k < ws.length) (hk2 : k < 65) : r_wordAs F r (k : Int) = some (zPk (ws.getD k [])) := by
  obtain ⟨w1, w2, w3, w4, w5⟩ := H
  obtain ⟨h1, h2, h3⟩ := zst_mono ws k hk
  unfold r_wordAs
  rw [if_pos (show zix (k : Int) 65 from ⟨by omega, by omega, by omega⟩), Int.toNat_natCast, (w5 k hk).1, (w5 k hk).2, packed_is F hF w3 (zwl_flat hl) w4 _ _ h1 h2, zsl_word ws k hk]
  rfl
/-- the literals -/
theorem strN_is : ∀ k : Fin 9, strN k.val = (zstr.getD k.val []).length := fun _ => rfl
theorem zstr_ok : ∀ k : Fin 9, zlw (zstr.getD k.val []) := by
  unfold zlw
  decide
theorem zstr_len : ∀ k : Fin 9, (zstr.getD k.val []).length ≤ 7 := by decide
theorem has_loop (F : Nat) {u : ZC} {ws : List (List Int)} (hl : zwl ws) (H : zW u ws) (k : Nat) (hk : k < ws.length) (x : Nat) (hx : x < 9) (hlen : (ws.getD k []).length = strN x) : ∀ (j i n : Nat), i + j = strN x → j < n → (∀ y, y < i → (ws.getD k []).getD y 0 = strC x y) → cWords_has_33 F n u x (zst ws k : Int) (i : Int) = some (if ws.getD k [] = zstr.getD x [] then 1 else 0) := by
  have hT := zW_T H
  obtain ⟨w1, w2, w3, w4, w5⟩ := H
  obtain ⟨h1, h2, h3⟩ := zst_mono ws k hk
  have hN7 := zstr_len ⟨x, hx⟩
  have hN7 : strN x ≤ 7 := hN7
  have hfl := w4.1
  intro j
  induction j with
  | zero =>
    intro i n hij hn hall
    obtain ⟨n, rfl⟩ : ∃ n', n = n' + 1 := ⟨n - 1, by omega⟩
    rw [cWords_has_33, if_pos (by rw [zI_le (by omega) (by omega) (by omega) (by omega)]; omega), if_pos]
    exact zext hlen (fun y hy => hall y (by omega))
  | succ j ih =>
    intro i n hij hn hall
    obtain ⟨n, rfl⟩ : ∃ n', n = n' + 1 := ⟨n - 1, by omega⟩
    have hc := zlw_get (zwl_get hl k) i (by omega)
    have hs : 32 ≤ strC x i ∧ strC x i ≤ 126 := zlw_get (zstr_ok ⟨x, hx⟩) i (by show i < strN x; omega)
    rw [cWords_has_33, if_neg (by rw [zI_le (by omega) (by omega) (by omega) (by omega)]; omega), if_pos (show zix ((zst ws k : Int) + (i : Int)) (cN u 1) from ⟨by omega, by omega, by omega⟩), if_pos (show zix (i : Int) (strN x) from ⟨by omega, by omega, by omega⟩)]
    rw [show ((zst ws k : Int) + (i : Int)).toNat = zst ws k + i by omega, Int.toNat_natCast, hT.2.2.1 _ (by omega), zst_get ws k i hk (by omega)]
    by_cases he : (ws.getD k []).getD i 0 = strC x i
    · rw [if_pos (by rw [he]), show (i : Int) + 1 = ((i + 1 : Nat) : Int) by omega]
      refine ih (i + 1) n (by omega) (by omega) (fun y hy => ?_)
      by_cases hyi : y = i
      · rw [hyi]; exact he
      · exact hall y (by omega)
    · rw [if_neg (by rw [zI_eq (by omega) (by omega) (by omega) (by omega)]; exact he), if_neg]
      intro e
      apply he
      rw [e]
      rfl
theorem has_is (F : Nat) (hF : 10 ≤ F) {u : ZC} {ws : List (List Int)} (hl : zwl ws) (H : zW u ws) (k : Nat) (hk : k ≤ 64) (x : Nat) (hx : x < 9) : cWords_has F u (k : Int) x = some (if k < ws.length ∧ ws.getD k [] = zstr.getD x [] then 1 else 0) := by
  have hN7 : strN x ≤ 7 := zstr_len ⟨x, hx⟩
  have hfl := H.2.2.2.1.1
  unfold cWords_has
  rw [startOf_is F H k hk, endOf_is F H k hk, H.1]
  simp only [Option.bind_some]
  have hw2 := H.2.1
  by_cases h : k < ws.length
  · obtain ⟨h1, h2, h3⟩ := zst_mono ws k h
    rw [if_neg (by rw [zI_le (by omega) (by omega) (by omega) (by omega)]; omega), if_pos (show k ≤ ws.length by omega), if_pos h]
    by_cases hlen : (ws.getD k []).length = strN x
    · rw [if_pos (by rw [zI_eq (by omega) (by omega) (by omega) (by omega)]; omega)]
      simp only [Option.bind_some, reduceCtorEq, if_false, h, true_and]
      exact has_loop F hl H k h x hx hlen (strN x) 0 F (by omega) (by omega) (fun y hy => by omega)
    · rw [if_neg (by rw [zI_eq (by omega) (by omega) (by omega) (by omega)]; omega)]
      simp only [Option.bind_some, if_true]
      rw [if_neg]
      rintro ⟨-, e⟩
      apply hlen
      rw [e]
      rfl
  · rw [if_pos (by rw [zI_le (by omega) (by omega) (by omega) (by omega)]; omega), if_neg (fun h2 : k < ws.length ∧ _ => h h2.1)]
    simp only [Option.bind_some, if_true]
theorem zlit : zpack (zstr.getD 0 []) = 12787320231034880 ∧ zpack (zstr.getD 1 []) = 12796116324057088 ∧ zpack (zstr.getD 2 []) = 28538272837795840 ∧ zpack (zstr.getD 3 []) = 27973173538455552 ∧ zpack (zstr.getD 4 []) = 33604373879717888 ∧ zpack (zstr.getD 5 []) = 29117702597509120 ∧ zpack (zstr.getD 6 []) = 30525741321945088 ∧ zpack (zstr.getD 7 []) = 30798851471441920 ∧ zpack (zstr.getD 8 []) = 27975973857132544 := by decide +kernel
