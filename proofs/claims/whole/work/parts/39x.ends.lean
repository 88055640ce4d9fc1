/-! what a command's output goes into -/
theorem copyAddTo (F : Nat) {w : List Int} (hw : w.length ≤ 96) (x sz : Nat) (hx : x ≤ 12) (hsz : sz + w.length ≤ 160) : ∀ (j k n : Nat) (r : ZR), k + j = w.length → j < n → rI r 35 = (w.length : Int) → rA r 7 x = (sz : Int) → zRA r 34 0 w → (∀ i, i < k → rA r 8 (160 * x + (sz + i)) = w.getD i 0) → ∃ r2, r_addTo_22 F n r (x : Int) (k : Int) = some (1, tA r2 7 x ((sz + w.length : Nat) : Int)) ∧ (∀ i, i < w.length → rA r2 8 (160 * x + (sz + i)) = w.getD i 0) ∧ zq [] [8] r r2 ∧ (∀ y, (y < 160 * x + sz ∨ 160 * x + 160 ≤ y) → rA r2 8 y = rA r 8 y) := by
  intro j
  induction j with
  | zero =>
    intro k n r hk hn h35 h7 h34 hd
    obtain ⟨n, rfl⟩ : ∃ n', n = n' + 1 := ⟨n - 1, by omega⟩
    refine ⟨r, ?_, fun i hi => hd i (by omega), zq_rf _ _ r, fun _ _ => rfl⟩
    rw [r_addTo_22, h35, if_pos (by rw [zI_le (by omega) (by omega) (by omega) (by omega)]; omega), if_pos (show zix (x : Int) 13 from ⟨by omega, by omega, by omega⟩), Int.toNat_natCast, h7]
    simp only [Option.bind_some]
    rw [show (sz : Int) + (w.length : Int) = ((sz + w.length : Nat) : Int) by omega]
  | succ j ih =>
    intro k n r hk hn h35 h7 h34 hd
    obtain ⟨n, rfl⟩ : ∃ n', n = n' + 1 := ⟨n - 1, by omega⟩
    have e34 := h34 k (by omega)
    rw [Nat.zero_add] at e34
    rw [r_addTo_22, h35, if_neg (by rw [zI_le (by omega) (by omega) (by omega) (by omega)]; omega), if_pos (show zix (x : Int) 13 from ⟨by omega, by omega, by omega⟩), if_pos (show zix (k : Int) 96 from ⟨by omega, by omega, by omega⟩), Int.toNat_natCast, h7, if_pos (show zix (160 * (x : Int) + (sz : Int) + (k : Int)) 2080 from ⟨by omega, by omega, by omega⟩)]
    simp only [Option.bind_some]
    rw [show (160 * (x : Int) + (sz : Int) + (k : Int)).toNat = 160 * x + (sz + k) by omega, Int.toNat_natCast, e34, show (k : Int) + 1 = ((k + 1 : Nat) : Int) by omega]
    obtain ⟨r2, c1, c2, c3, c4⟩ := ih (k + 1) n (tA r 8 (160 * x + (sz + k)) (w.getD k 0)) (by omega) (by omega) h35 h7 h34 (fun i hi => by
      show (if 8 = 8 ∧ 160 * x + (sz + i) = 160 * x + (sz + k) then w.getD k 0 else rA r 8 (160 * x + (sz + i))) = _
      by_cases hik : i = k
      · rw [if_pos ⟨rfl, by omega⟩, hik]
      · rw [if_neg (by omega)]
        exact hd i (by omega))
    refine ⟨r2, c1, c2, zq_tr (zq_A _ _ r 8 _ _ (by decide)) c3, fun y hy => ?_⟩
    rw [c4 y hy]
    show (if 8 = 8 ∧ y = 160 * x + (sz + k) then w.getD k 0 else rA r 8 y) = _
    rw [if_neg (by omega)]
theorem copyFill (F : Nat) {w : List Int} (hw : w.length ≤ 96) (b : Nat) (hb : b < 10) : ∀ (j k n : Nat) (r : ZR), k + j = w.length → j < n → rI r 35 = (w.length : Int) → zRA r 34 0 w → (∀ i, i < k → rA r 32 (160 * b + i) = w.getD i 0) → ∃ r2, r_fill_12 F n r (b : Int) (k : Int) = some r2 ∧ zRA r2 32 (160 * b) w ∧ zq [] [32] r r2 ∧ (∀ y, (y < 160 * b ∨ 160 * b + 160 ≤ y) → rA r2 32 y = rA r 32 y) := by
  intro j
  induction j with
  | zero =>
    intro k n r hk hn h35 h34 hd
    obtain ⟨n, rfl⟩ : ∃ n', n = n' + 1 := ⟨n - 1, by omega⟩
    refine ⟨r, ?_, fun i hi => hd i (by omega), zq_rf _ _ r, fun _ _ => rfl⟩
    rw [r_fill_12, h35, if_pos (by rw [zI_le (by omega) (by omega) (by omega) (by omega)]; omega)]
  | succ j ih =>
    intro k n r hk hn h35 h34 hd
    obtain ⟨n, rfl⟩ : ∃ n', n = n' + 1 := ⟨n - 1, by omega⟩
    have e34 := h34 k (by omega)
    rw [Nat.zero_add] at e34
    rw [r_fill_12, h35, if_neg (by rw [zI_le (by omega) (by omega) (by omega) (by omega)]; omega), if_pos (show zix (k : Int) 96 from ⟨by omega, by omega, by omega⟩), if_pos (show zix (160 * (b : Int) + (k : Int)) 1600 from ⟨by omega, by omega, by omega⟩)]
    simp only [Option.bind_some]
    rw [show (160 * (b : Int) + (k : Int)).toNat = 160 * b + k by omega, Int.toNat_natCast, e34, show (k : Int) + 1 = ((k + 1 : Nat) : Int) by omega]
    obtain ⟨r2, c1, c2, c3, c4⟩ := ih (k + 1) n (tA r 32 (160 * b + k) (w.getD k 0)) (by omega) (by omega) h35 h34 (fun i hi => by
      show (if 32 = 32 ∧ 160 * b + i = 160 * b + k then w.getD k 0 else rA r 32 (160 * b + i)) = _
      by_cases hik : i = k
      · rw [if_pos ⟨rfl, by omega⟩, hik]
      · rw [if_neg (by omega)]
        exact hd i (by omega))
    refine ⟨r2, c1, c2, zq_tr (zq_A _ _ r 32 _ _ (by decide)) c3, fun y hy => ?_⟩
    rw [c4 y hy]
    show (if 32 = 32 ∧ y = 160 * b + k then w.getD k 0 else rA r 32 y) = _
    rw [if_neg (by omega)]
/-- the output of a command behind the output of its list; what is left to do then -/
theorem copyPut (F : Nat) {w : List Int} (hw : w.length ≤ 96) (lev pl : Nat) (hlev : lev < 5) (hpl : pl + w.length ≤ 96) (st : Int) : ∀ (j k n : Nat) (r : ZR), k + j = w.length → j < n → rI r 35 = (w.length : Int) → rI r 21 = (lev : Int) → rA r 31 lev = (pl : Int) → zRA r 34 0 w → (∀ i, i < k → rA r 30 (96 * lev + (pl + i)) = w.getD i 0) → ∃ r2, r_endCommand_138 F n r st (k : Int) = (Option.bind (if ¬ zI (rA r2 29 lev) = 0 then (if ¬ zI st = 0 then some (0 : Int) else some 1) else some st) fun (x9 : Int) => Option.bind (r_goOn F (tI (tA r2 31 lev ((pl + w.length : Nat) : Int)) 45 x9)) fun (u10 : ZR) => some ((1 : Int), u10)) ∧ (∀ i, i < w.length → rA r2 30 (96 * lev + (pl + i)) = w.getD i 0) ∧ zq [] [30] r r2 ∧ (∀ y, (y < 96 * lev + pl ∨ 96 * lev + 96 ≤ y) → rA r2 30 y = rA r 30 y) := by
  intro j
  induction j with
  | zero =>
    intro k n r hk hn h35 h21 h31 h34 hd
    obtain ⟨n, rfl⟩ : ∃ n', n = n' + 1 := ⟨n - 1, by omega⟩
    have hz : zix (lev : Int) 5 := ⟨by omega, by omega, by omega⟩
    refine ⟨r, ?_, fun i hi => hd i (by omega), zq_rf _ _ r, fun _ _ => rfl⟩
    rw [r_endCommand_138, h35, if_pos (by rw [zI_le (by omega) (by omega) (by omega) (by omega)]; omega), h21, if_pos hz, Int.toNat_natCast, h31]
    have e21 : ∀ v, rI (tA r 31 lev v) 21 = (lev : Int) := fun v => h21
    have e29 : ∀ v, rA (tA r 31 lev v) 29 lev = rA r 29 lev := fun v => rfl
    simp only [Option.bind_some, e21, if_pos hz, Int.toNat_natCast, e29]
    rw [show (pl : Int) + (w.length : Int) = ((pl + w.length : Nat) : Int) by omega]
  | succ j ih =>
    intro k n r hk hn h35 h21 h31 h34 hd
    obtain ⟨n, rfl⟩ : ∃ n', n = n' + 1 := ⟨n - 1, by omega⟩
    have e34 := h34 k (by omega)
    rw [Nat.zero_add] at e34
    rw [r_endCommand_138, h35, if_neg (by rw [zI_le (by omega) (by omega) (by omega) (by omega)]; omega), h21, if_pos (show zix (lev : Int) 5 from ⟨by omega, by omega, by omega⟩), if_pos (show zix (k : Int) 96 from ⟨by omega, by omega, by omega⟩), Int.toNat_natCast, h31, if_pos (show zix (96 * (lev : Int) + (pl : Int) + (k : Int)) 480 from ⟨by omega, by omega, by omega⟩)]
    simp only [Option.bind_some]
    rw [show (96 * (lev : Int) + (pl : Int) + (k : Int)).toNat = 96 * lev + (pl + k) by omega, Int.toNat_natCast, e34, show (k : Int) + 1 = ((k + 1 : Nat) : Int) by omega]
    obtain ⟨r2, c1, c2, c3, c4⟩ := ih (k + 1) n (tA r 30 (96 * lev + (pl + k)) (w.getD k 0)) (by omega) (by omega) h35 h21 h31 h34 (fun i hi => by
      show (if 30 = 30 ∧ 96 * lev + (pl + i) = 96 * lev + (pl + k) then w.getD k 0 else rA r 30 (96 * lev + (pl + i))) = _
      by_cases hik : i = k
      · rw [if_pos ⟨rfl, by omega⟩, hik]
      · rw [if_neg (by omega)]
        exact hd i (by omega))
    refine ⟨r2, c1, c2, zq_tr (zq_A _ _ r 30 _ _ (by decide)) c3, fun y hy => ?_⟩
    rw [c4 y hy]
    show (if 30 = 30 ∧ y = 96 * lev + (pl + k) then w.getD k 0 else rA r 30 y) = _
    rw [if_neg (by omega)]
/-- the output of a group's list becomes the output of the group -/
theorem copyClose (F : Nat) {w : List Int} (hw : w.length ≤ 96) (lev : Nat) (hlev : lev < 5) : ∀ (j k n : Nat) (r : ZR), k + j = w.length → j < n → rI r 35 = (w.length : Int) → rI r 21 = (lev : Int) → zRA r 30 (96 * lev) w → (∀ i, i < k → rA r 34 i = w.getD i 0) → ∃ n2 r2, r_closeGroup_15 F n r (k : Int) = r_closeGroup_15 F (n2 + 1) r2 (w.length : Int) ∧ zRA r2 34 0 w ∧ zq [] [34] r r2 := by
  intro j
  induction j with
  | zero =>
    intro k n r hk hn h35 h21 h30 hd
    obtain ⟨n, rfl⟩ : ∃ n', n = n' + 1 := ⟨n - 1, by omega⟩
    exact ⟨n, r, by rw [show k = w.length by omega], fun i hi => by rw [Nat.zero_add]; exact hd i (by omega), zq_rf _ _ r⟩
  | succ j ih =>
    intro k n r hk hn h35 h21 h30 hd
    obtain ⟨n, rfl⟩ : ∃ n', n = n' + 1 := ⟨n - 1, by omega⟩
    rw [r_closeGroup_15, h35, if_neg (by rw [zI_le (by omega) (by omega) (by omega) (by omega)]; omega), h21, if_pos (show zix (96 * (lev : Int) + (k : Int)) 480 from ⟨by omega, by omega, by omega⟩), if_pos (show zix (k : Int) 96 from ⟨by omega, by omega, by omega⟩)]
    simp only [Option.bind_some]
    rw [show (96 * (lev : Int) + (k : Int)).toNat = 96 * lev + k by omega, Int.toNat_natCast, h30 k (by omega), show (k : Int) + 1 = ((k + 1 : Nat) : Int) by omega]
    obtain ⟨n2, r2, c1, c2, c3⟩ := ih (k + 1) n (tA r 34 k (w.getD k 0)) (by omega) (by omega) h35 h21 h30 (fun i hi => by
      show (if 34 = 34 ∧ i = k then w.getD k 0 else rA r 34 i) = _
      by_cases hik : i = k
      · rw [if_pos ⟨rfl, hik⟩, hik]
      · rw [if_neg (by omega)]
        exact hd i (by omega))
    exact ⟨n2, r2, c1, c2, zq_tr (zq_A _ _ r 34 _ _ (by decide)) c3⟩
/-- one size is not more than all -/
theorem zsum_ge {u : ZC} {r : ZR} {c h : Nat} (HT : zTree u r c h) (h5 : 0 ≤ cI u 5 0) (x : Nat) (hx : x ≤ c) : ∀ (j k : Nat), k + j = 13 → k ≤ x → rA r 7 x ≤ zsum r k j := by
  have hc := HT.1
  intro j
  induction j with
  | zero => intro k h1 h2; omega
  | succ j ih =>
    intro k hk hkx
    rw [zsum]
    have h3 := HT.2.2.2.2.2.2.2.1 k (by omega)
    rw [if_pos (by omega)] at h3
    rw [h3, if_neg z10]
    have hnn := zsum_nn HT h5 j (k + 1) (by omega)
    by_cases hkx2 : k = x
    · subst hkx2; omega
    · have := ih (k + 1) (by omega) (by omega)
      have h7 : 0 ≤ rA r 7 k := by
        by_cases h0 : k = 0
        · subst h0; rw [HT.2.2.2.2.2.2.2.2.1.2.2.2.2.2]; exact Int.le_refl _
        · rcases (HT.2.2.2.2.2.2.2.2.2.1 k (by omega) (by omega)).2.2.2.2.2 with ⟨-, -, e⟩ | ⟨-, -, -, -, -, e1, -, e2, -⟩
          · rw [e]; exact Int.le_refl _
          · rw [e2]; exact e1
      omega
/-- the output goes to a file -/
theorem append_alike (F : Nat) (hF : 200 ≤ F) {u : ZC} {r : ZR} {m n c h k : Nat} {K L A B : Nat → Int} (H : zRn u r m n K L A B c h k) (x : Nat) (hx : 1 ≤ x ∧ x ≤ c) (h6 : cP u 6 x = some (x + 23)) {w : List Int} (hT : zT u (4 + 4 * k) w) (hR : rI r 35 = (w.length : Int) ∧ zRA r 34 0 w) :
    (cTree_append F u (x + 23) (4 + 4 * k) = some (0, u) ∧ r_addTo F r (x : Int) = some (0, r)) ∨ ∃ u2 r2, cTree_append F u (x + 23) (4 + 4 * k) = some (1, u2) ∧ r_addTo F r (x : Int) = some (1, r2) ∧ zRn u2 r2 m n K L A B c h k ∧ cP u2 = cP u ∧ (∀ t, t < 23 → zT4 u u2 t) ∧ (∀ o, cI u2 11 o = cI u 11 o) ∧ zq [] [7, 8] r r2 := by
  have H0 := H
  obtain ⟨⟨HT, hc4, HL⟩, htot, hst, hran, HB, ⟨HP, HG⟩, HTs, ⟨hk5, h21⟩, HPt⟩ := H
  have hc12 := HT.1
  have h5 := HL.2.1
  obtain ⟨f1, f2, f3, f4, f5, v, f6, f7, f8, f9⟩ := zfile HT ⟨h5.1, h5.2.1⟩ x (x + 23) hx.2 h6
  obtain ⟨hcap1, hcap2, hcap3⟩ := zcap HL k hk5
  have hw96 : w.length ≤ 96 := by have := hT.2.1; omega
  have hlt : ∀ u : ZC, zlT u (4 + 4 * k) := fun u => Or.inl (by omega)
  have hch := chars_is F (by omega) r
  have hge := zsum_ge HT h5.1 x hx.2 13 0 (by omega) (by omega)
  unfold cTree_append r_addTo
  rw [if_pos (hlt u), hT.1, hch, hR.1]
  simp only [Option.bind_some]
  by_cases hfit : cI u 7 0 + (w.length : Int) ≤ cI u 5 0
  · refine Or.inr ?_
    have hHv : zH (sI u 1 (x + 23) 0) (x + 23) v := ⟨⟨by show 0 ≤ cI u 0 (x + 23); rw [f6.1]; omega, by show cI u 0 (x + 23) ≤ (cN u (x + 23) : Int); rw [f6.1]; have := f6.2.1; omega⟩, fun _ => ⟨by show (if 1 = 1 ∧ x + 23 = x + 23 then (0 : Int) else _) = 0; rw [if_pos ⟨rfl, rfl⟩], f6⟩, fun hh => absurd f6.2.1 (by show ¬ v.length ≤ cN u (x + 23); have hh : cN u (x + 23) < v.length := hh; omega), f6.2.2.2⟩
    -- the mark of a content is worth nothing: addAll does not look at it
    have hadd : ∃ (u2 : ZC), cText_addAll F u (x + 23) (4 + 4 * k) = some (1, u2) ∧ zT u2 (x + 23) (v ++ w) ∧ zFr (x + 23) (x + 23) 0 0 u u2 := by
      have hcopy : zcp u (4 + 4 * k) 0 (x + 23) (cI u 0 (x + 23)) ((w.length : Int) - 0) := by
        refine ⟨⟨by omega, by rw [f6.1]; omega, by omega⟩, ⟨by have := hT.2.1; omega, by rw [f6.1]; omega, by omega, by rw [f6.1]; omega⟩, fun i hi => ?_⟩
        rw [show (0 : Int).toNat + i = i by omega, hT.2.2.1 i (by omega)]
        exact zOk_ch (hT.2.2.2 _ (by rw [zgE w i (by omega)]; exact List.getElem_mem _))
      have f6l := f6.2.1
      refine ⟨sI (sCopy u (4 + 4 * k) 0 (x + 23) v.length w.length) 0 (x + 23) (cI u 0 (x + 23) + (w.length : Int)), ?_, ⟨?_, ?_, fun i hi => ?_, fun y hy => ?_⟩, ?_⟩
      · unfold cText_addAll
        rw [if_pos (hlt u), if_pos f4, hT.1]
        unfold cText_addPiece
        rw [if_neg (by decide), if_neg (by rw [zI_lt0 (by omega) (by omega)]; omega), if_pos (hlt u), hT.1, if_neg (by rw [zI_lt (by omega) (by omega) (by omega) (by omega)]; omega), if_pos f4, if_pos (by rw [zI_le (by omega) (by omega) (by rw [f6.1]; omega) (by rw [f6.1]; omega), f6.1]; omega)]
        simp only [Option.bind_some, reduceCtorEq, if_false, if_pos (hlt u), if_pos f4, if_pos hcopy, zb2_some]
        rw [if_pos (show zbl 1 from Or.inr rfl)]
        rw [show ((w.length : Int) - 0).toNat = w.length by omega, show (cI u 0 (x + 23)).toNat = v.length by rw [f6.1]; omega, Int.sub_zero]
        rfl
      · show (if 0 = 0 ∧ x + 23 = x + 23 then cI u 0 (x + 23) + (w.length : Int) else _) = _
        rw [if_pos ⟨rfl, rfl⟩, f6.1, List.length_append]
        omega
      · show (v ++ w).length ≤ cN u (x + 23)
        rw [List.length_append]
        omega
      · rw [List.length_append] at hi
        show (if 0 = 0 ∧ x + 23 = x + 23 ∧ v.length ≤ i ∧ i < v.length + w.length then cA u 0 (4 + 4 * k) (0 + (i - v.length)) else cA u 0 (x + 23) i) = _
        rw [zgA]
        by_cases hiv : i < v.length
        · rw [if_neg (by omega), if_pos hiv]
          exact f6.2.2.1 i hiv
        · rw [if_pos ⟨rfl, rfl, by omega, by omega⟩, if_neg hiv, Nat.zero_add]
          exact hT.2.2.1 _ (by omega)
      · rcases List.mem_append.1 hy with hy | hy
        · exact f6.2.2.2 y hy
        · exact hT.2.2.2 y hy
      · refine ⟨fun f o g1 _ => ?_, fun _ _ _ => rfl, fun _ _ _ => rfl, fun f o i g1 _ => ?_, rfl, rfl⟩
        · show (if f = 0 ∧ o = x + 23 then cI u 0 (x + 23) + (w.length : Int) else cI u f o) = cI u f o
          rw [if_neg (by omega)]
        · show (if f = 0 ∧ o = x + 23 ∧ v.length ≤ i ∧ i < v.length + w.length then cA u 0 (4 + 4 * k) (0 + (i - v.length)) else cA u f o i) = cA u f o i
          rw [if_neg (by omega)]
    obtain ⟨u2, a1, a2, a3⟩ := hadd
    obtain ⟨r3, c1, c2, c3, c4⟩ := copyAddTo F hw96 x v.length (by omega) (by omega) w.length 0 F r (by omega) (by omega) hR.1 f8 hR.2 (fun i hi => absurd hi (Nat.not_lt_zero i))
    have c1' : r_addTo_22 F F r (x : Int) 0 = some (1, tA r3 7 x ((v.length + w.length : Nat) : Int)) := c1
    have e02 : cI u2 0 (4 + 4 * k) = (w.length : Int) := by rw [a3.1 0 _ (by omega) (by omega)]; exact hT.1
    have e72 : cI u2 7 0 = cI u 7 0 := a3.1 7 0 (by omega) (by omega)
    have q7 : zq [] [7, 8] r (tA r3 7 x ((v.length + w.length : Nat) : Int)) := zq_tr (zq_mono c3 (by decide) (by decide)) (zq_A _ _ r3 7 _ _ (by decide))
    have r7 : ∀ i, i ≠ x → rA (tA r3 7 x ((v.length + w.length : Nat) : Int)) 7 i = rA r 7 i := fun i hi => by
      show (if 7 = 7 ∧ i = x then _ else rA r3 7 i) = _
      rw [if_neg (by omega), c3.2.2.1 7 i (by decide)]
    have r7x : rA (tA r3 7 x ((v.length + w.length : Nat) : Int)) 7 x = ((v.length + w.length : Nat) : Int) := by
      show (if 7 = 7 ∧ x = x then _ else _) = _
      rw [if_pos ⟨rfl, rfl⟩]
    have g8 : zRA (tA r3 7 x ((v.length + w.length : Nat) : Int)) 8 (160 * x) (v ++ w) := by
      intro i hi
      rw [List.length_append] at hi
      show rA r3 8 (160 * x + i) = _
      rw [zgA]
      by_cases hiv : i < v.length
      · rw [if_pos hiv, c4 _ (by omega)]
        exact f9 i hiv
      · rw [if_neg hiv, show 160 * x + i = 160 * x + (v.length + (i - v.length)) by omega]
        exact c2 _ (by omega)
    have hvl : ((v ++ w).length : Int) ≤ cI u 5 0 := by rw [List.length_append]; omega
    have HT2 : zTree u2 (tA r3 7 x ((v.length + w.length : Nat) : Int)) c h := zTree_cont (v := v ++ w) HT h5.1 hx h6 (Or.inl a3) [] [7, 8] q7 (by decide) (by decide) r7 (fun i j hi hj => by
      show rA r3 8 (160 * i + j) = _
      exact c4 _ (by omega)) a2 hvl h5.2.1 (by rw [r7x, List.length_append]) g8
    have h3x : rA r 3 x = 1 := by
      have := HT.2.2.2.2.2.2.2.1 x (by omega)
      rw [if_pos hx.2] at this
      exact this
    have hsum := (zsum_set (r := r) (s := tA r3 7 x ((v.length + w.length : Nat) : Int)) x (fun i => c3.2.2.1 3 i (by decide)) r7 h3x 13 0).1 (by omega)
    rw [r7x, f8] at hsum
    refine ⟨sI u2 7 0 (cI u2 7 0 + cI u2 0 (4 + 4 * k)), tA r3 7 x ((v.length + w.length : Nat) : Int), ?_, ?_, ?_, ?_, fun t ht => ?_, fun o => ?_, q7⟩
    · rw [if_neg (by rw [zI_lt (by omega) (by omega) (by omega) (by omega)]; omega), if_pos f4, a1]
      simp only [zb2_some, z10, not_false_iff, if_true, if_pos (hlt u2)]
    · rw [if_pos (by rw [zI_le (by omega) (by omega) (by omega) (by omega), HL.2.1.2.2]; omega)]
      exact c1'
    · have hzT : ∀ t, t < 23 → ∀ l, zT u t l → zT u2 t l := fun t ht l hl => zFr_T a3 (by omega) hl
      have hTg2 : zTg u2 c := zTg_fr a3 HG
      have hPb2 : zPb u2 c := zPb_fr a3 HP
      have hlim2 : zlim u2 (tA r3 7 x ((v.length + w.length : Nat) : Int)) := zlim_fr a3 q7 (by decide) HL
      have hTs2 : zTs u2 (tA r3 7 x ((v.length + w.length : Nat) : Int)) m n K L A B := zTs_fr a3 (by omega) q7 (by decide) (by decide) HTs
      refine ⟨⟨HT2, by show (c : Int) ≤ cI u2 4 0; rw [a3.1 4 0 (by omega) (by omega)]; exact hc4, hlim2⟩, ?_, ?_, ?_, ⟨hzT 2 (by omega) [] HB.1, fun b hb => ?_⟩, ⟨hPb2, hTg2⟩, hTs2, ⟨hk5, by rw [q7.1 21 (by decide)]; exact h21⟩, fun j hj => ?_⟩
      · show cI u2 7 0 + cI u2 0 (4 + 4 * k) = _ ∧ 0 ≤ cI u2 7 0 + cI u2 0 (4 + 4 * k) ∧ cI u2 7 0 + cI u2 0 (4 + 4 * k) ≤ cI u2 5 0
        rw [e72, e02, a3.1 5 0 (by omega) (by omega), hsum]
        refine ⟨by rw [htot.1]; omega, by omega, hfit⟩
      · show rI _ 45 = cI u2 8 0 ∧ _
        rw [a3.1 8 0 (by omega) (by omega), q7.1 45 (by decide)]
        exact ⟨hst.1, by show 0 ≤ cI u2 8 0; rw [a3.1 8 0 (by omega) (by omega)]; exact hst.2.1, by show cI u2 8 0 ≤ 127; rw [a3.1 8 0 (by omega) (by omega)]; exact hst.2.2⟩
      · show rI _ 48 = cI u2 9 0
        rw [a3.1 9 0 (by omega) (by omega), q7.1 48 (by decide)]
        exact hran
      · obtain ⟨l, l1, l2, l3, l4⟩ := HB.2 b hb
        refine ⟨l, hzT _ (by have := (zbt_in b hb).2.1; omega) l l1, l2, by rw [q7.2.2.1 33 b (by decide)]; exact l3, fun i hi => by rw [q7.2.2.1 32 _ (by decide)]; exact l4 i hi⟩
      · obtain ⟨l, l1, l2, l3⟩ := HPt j hj
        exact ⟨l, hzT (3 + 4 * j) (by omega) l l1, by rw [q7.2.2.1 31 j (by decide)]; exact l2, fun i hi => by rw [q7.2.2.1 30 _ (by decide)]; exact l3 i hi⟩
    · funext f o
      exact a3.2.2.1 f o (by omega)
    · have : zT4 u u2 t := zT4_fr a3 (by omega)
      exact this
    · exact a3.1 11 o (by omega) (by omega)
  · refine Or.inl ⟨?_, ?_⟩
    · rw [if_pos (by rw [zI_lt (by omega) (by omega) (by omega) (by omega)]; omega)]
    · rw [if_neg (by rw [zI_le (by omega) (by omega) (by omega) (by omega), HL.2.1.2.2]; omega)]
