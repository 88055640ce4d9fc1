/-! one redirection -/
theorem red_follow (F : Nat) (hF : 110 ≤ F) {u : ZC} {r : ZR} {m n c h k : Nat} {K L A B : Nat → Int} (HS : zSt m n K L A B) (H : zRn u r m n K L A B c h k) (j : Nat) (hj : j < m) (hk10 : K j = 10) :
    ∃ (p : Option Nat) (u3 u4 u6 : ZC) (r1 r6 : ZR), cWords_clear F u = some u3 ∧ cWords_add F u3 (j : Int) (cI u3 8 0) = some u4 ∧ cTree_follow F u4 0 = some (p, u6) ∧ r_expand F (tI (tI r 16 0) 19 0) (j : Int) = some r1 ∧ r_follow F r1 0 = some r6 ∧ zRn u6 r6 m n K L A B c h k ∧ zPa u6 r6 c ∧ zFr 1 1 1 1 u u6 ∧ zq [16, 19, 42, 43, 44] [17, 18, 20] r r6 := by
  have hN1 : cN u 1 = 96 := H.1.2.2.2.2.2.1
  have hPb := H.2.2.2.2.2.1.1
  obtain ⟨u3, a1, a2, a3⟩ := wclear_is F hN1
  have b0 : zq [16, 19] [17, 18, 20] r (tI (tI r 16 0) 19 0) := zq_tr (zq_I _ _ r 16 0 (by decide)) (zq_I _ _ _ 19 0 (by decide))
  have HR0 : zWr (tI (tI r 16 0) 19 0) [] := ⟨rfl, rfl, by decide, fun i hi => absurd hi (Nat.not_lt_zero i), fun i hi => absurd hi (Nat.not_lt_zero i)⟩
  have H3 : zRn u3 (tI (tI r 16 0) 19 0) m n K L A B c h k := zRn_fr H a3 ⟨Or.inl rfl, Or.inl rfl⟩ b0 (by decide) (by decide) (zPb_fr a3 hPb)
  obtain ⟨aa, bb, ha, hb, -⟩ := HS.2.2.2.1 j hj
  obtain ⟨w, u4, r1, c1, c2, c3, c4, c5, c6, c7, c8⟩ := word_alike F hF HS H3 (ws := []) (fun w hw => by cases hw) a2 HR0 j hj hk10 (by rw [ha]; show 2 * ((0 : Nat) : Int) ≤ 3 * (aa : Int); omega) (by decide)
  have H4 : zRn u4 r1 m n K L A B c h k := zRn_fr H3 c7 ⟨Or.inl rfl, Or.inl rfl⟩ c8 (by decide) (by decide) (zPb_fr c7 (zPb_fr a3 hPb))
  obtain ⟨u6, r6, d1, d2, d3, d4, d5⟩ := follow_alike F hF H4.1.1 c3 c4 c5 0 (by simp)
  have H6 : zRn u6 r6 m n K L A B c h k := zRn_fr H4 (d4 7777 7777) ⟨Or.inr (Or.inr rfl), Or.inr (Or.inr rfl)⟩ d5 (by decide) (by decide) (zPa_b d3)
  refine ⟨_, u3, u4, u6, r1, r6, a1, c1, d1, c2, d2, H6, d3, ?_, zq_tr (zq_mono (zq_tr b0 c8) (by decide) (by decide)) (zq_mono d5 (by decide) (by decide))⟩
  exact zFr_tr (zFr_mono (zFr_tr a3 c7) (by omega) (by omega) (by omega) (by omega)) (zFr_mono (d4 1 1) (by omega) (by omega) (by omega) (by omega))
theorem zsum_nn {u : ZC} {r : ZR} {c h : Nat} (HT : zTree u r c h) (h5 : 0 ≤ cI u 5 0) : ∀ (j k : Nat), k + j = 13 → 0 ≤ zsum r k j := by
  have hc := HT.1
  intro j
  induction j with
  | zero => intro k _; exact Int.le_refl _
  | succ j ih =>
    intro k hk
    have h1 := ih (k + 1) (by omega)
    rw [zsum]
    have h3 := HT.2.2.2.2.2.2.2.1 k (by omega)
    by_cases hkc : k ≤ c
    · rw [if_pos hkc] at h3
      rw [h3, if_neg z10]
      have : 0 ≤ rA r 7 k := by
        by_cases h0 : k = 0
        · subst h0; rw [HT.2.2.2.2.2.2.2.2.1.2.2.2.2.2]; exact Int.le_refl _
        · rcases (HT.2.2.2.2.2.2.2.2.2.1 k (by omega) hkc).2.2.2.2.2 with ⟨-, -, e⟩ | ⟨-, -, -, -, -, e1, -, e2, -⟩
          · rw [e]; exact Int.le_refl _
          · rw [e2]; exact e1
      omega
    · rw [if_neg hkc] at h3
      rw [h3, if_pos z00]
      omega
/-- the sum when one size changes -/
theorem zsum_set {r s : ZR} (x : Nat) (h3 : ∀ i, rA s 3 i = rA r 3 i) (h7 : ∀ i, i ≠ x → rA s 7 i = rA r 7 i) (hx : rA r 3 x = 1) : ∀ (j k : Nat), (k ≤ x ∧ x < k + j → zsum s k j = zsum r k j - rA r 7 x + rA s 7 x) ∧ (¬ (k ≤ x ∧ x < k + j) → zsum s k j = zsum r k j) := by
  intro j
  induction j with
  | zero => intro k; exact ⟨fun h => by omega, fun _ => rfl⟩
  | succ j ih =>
    intro k
    obtain ⟨i1, i2⟩ := ih (k + 1)
    simp only [zsum, h3]
    by_cases hkx : k = x
    · subst hkx
      refine ⟨fun _ => ?_, fun h => by omega⟩
      rw [i2 (by omega), hx, if_neg z10, if_neg z10]
      omega
    · rw [h7 k hkx]
      refine ⟨fun h => ?_, fun h => ?_⟩
      · rw [i1 (by omega)]; omega
      · rw [i2 (by omega)]
/-- a file's content is another one: tree and sum -/
theorem zTree_cont {u w : ZC} {r s : ZR} {c h x : Nat} {v : List Int} (HT : zTree u r c h) (hl5 : 0 ≤ cI u 5 0) (hx : 1 ≤ x ∧ x ≤ c) (h6 : cP u 6 x = some (x + 23)) (a : zFr (x + 23) (x + 23) 0 0 u w ∨ ∃ t, zFr (x + 23) t 0 0 u w ∧ t < 23) (S X : List Nat) (b : zq S X r s) (hS : 9 ∉ S) (hX : 3 ∉ X ∧ 4 ∉ X ∧ 5 ∉ X ∧ 6 ∉ X) (b7 : ∀ i, i ≠ x → rA s 7 i = rA r 7 i) (b8 : ∀ i j, i ≠ x → j < 160 → rA s 8 (160 * i + j) = rA r 8 (160 * i + j)) (hT : zT w (x + 23) v) (hv : (v.length : Int) ≤ cI u 5 0) (hl160 : cI u 5 0 ≤ 160) (g7 : rA s 7 x = (v.length : Int)) (g8 : zRA s 8 (160 * x) v) : zTree w s c h := by
  obtain ⟨t1, t2, t3, t4, t5, t6, t7, t8, t9, t10, t11, t12, t13, t14⟩ := HT
  have hfr : ∃ t, zFr (x + 23) t 0 0 u w ∧ (t < 23 ∨ t = x + 23) := by
    rcases a with a | ⟨t, a, ht⟩
    · exact ⟨x + 23, a, Or.inr rfl⟩
    · exact ⟨t, a, Or.inl ht⟩
  obtain ⟨t, ⟨a1, a2, a3, a4, a5, a6⟩, ht⟩ := hfr
  have p5 : ∀ n, cP w 5 n = cP u 5 n := fun n => a3 5 n (by omega)
  have p6 : ∀ n, cP w 6 n = cP u 6 n := fun n => a3 6 n (by omega)
  have p7 : ∀ n, cP w 7 n = cP u 7 n := fun n => a3 7 n (by omega)
  have j0 : ∀ n, cJ w 0 n = cJ u 0 n := fun n => a2 0 n (by omega)
  have i5 := a1 5 0 (by omega) (by omega)
  refine ⟨t1, (a1 6 0 (by omega) (by omega)).trans t2, (a3 0 0 (by omega)).trans t3, (a3 1 0 (by omega)).trans t4, (b.1 9 hS).trans t5, t6, (p6 h).trans t7, fun i hi => (b.2.2.1 3 i hX.1).trans (t8 i hi), ?_, fun i h1 h2 => ?_, by rw [a6]; exact t11, fun y z g1 g2 g3 => by rw [p5, p5, j0, j0]; exact t12 y z g1 g2 g3, fun i hi => t13 i (by rw [← a6]; exact hi), fun i hi => by rw [p5, p6, p7]; exact t14 i hi⟩
  · rw [p5, p6, p7, b.2.2.1 4 0 hX.2.1, b.2.2.1 5 0 hX.2.2.1, b7 0 (by omega)]
    exact t9
  · obtain ⟨q1, q2, q3, q4, q5, q6⟩ := t10 i h1 h2
    by_cases hix : i = x
    · subst hix
      rcases q6 with ⟨e, -⟩ | ⟨e1, e2, e3, e4, e5, e6, e7, e8, e9⟩
      · rw [h6] at e; cases e
      · refine ⟨by rw [p5]; obtain ⟨p, z1, z2, z3, z4⟩ := q1; exact ⟨p, z1, z2, by rw [b.2.2.1 5 i hX.2.2.1]; exact z3, by rw [p6]; exact z4⟩, by rw [p7]; exact q2, by rw [j0, b.2.2.2 6 i hX.2.2.2]; exact q3, by rw [a6]; exact q4, by rw [j0]; exact q5, Or.inr ⟨by rw [p6]; exact e1, by rw [b.2.2.1 4 i hX.2.1]; exact e2, by rw [a6]; exact e3, by rw [a6]; exact e4, by rw [a5, i5]; exact e5, by rw [hT.1]; omega, by rw [hT.1, i5]; exact hv, by rw [g7, hT.1], fun y hy => ?_⟩⟩
        rw [hT.1] at hy
        have hy' : y < v.length := by omega
        rw [hT.2.2.1 y hy', g8 y hy']
        refine ⟨rfl, ?_⟩
        have := hT.2.2.2 (v.getD y 0) (by rw [zgE v y hy']; exact List.getElem_mem _)
        exact this
    · have iT := a1 0 (i + 23) (by omega) (by omega)
      have aT : ∀ y, cA w 0 (i + 23) y = cA u 0 (i + 23) y := fun y => a4 0 (i + 23) y (by omega) (by omega)
      refine ⟨by rw [p5]; obtain ⟨p, z1, z2, z3, z4⟩ := q1; exact ⟨p, z1, z2, by rw [b.2.2.1 5 i hX.2.2.1]; exact z3, by rw [p6]; exact z4⟩, by rw [p7]; exact q2, by rw [j0, b.2.2.2 6 i hX.2.2.2]; exact q3, by rw [a6]; exact q4, by rw [j0]; exact q5, ?_⟩
      rcases q6 with ⟨e1, e2, e3⟩ | ⟨e1, e2, e3, e4, e5, e6, e7, e8, e9⟩
      · exact Or.inl ⟨by rw [p6]; exact e1, by rw [b.2.2.1 4 i hX.2.1]; exact e2, by rw [b7 i hix]; exact e3⟩
      · refine Or.inr ⟨by rw [p6]; exact e1, by rw [b.2.2.1 4 i hX.2.1]; exact e2, by rw [a6]; exact e3, by rw [a6]; exact e4, by rw [a5, i5]; exact e5, by rw [iT]; exact e6, by rw [iT, i5]; exact e7, by rw [b7 i hix, iT]; exact e8, fun y hy => ?_⟩
        rw [iT] at hy
        rw [aT, b8 i y hix (by omega)]
        exact e9 y hy
/-- as zRn_fr, where the rows that commands read from are told apart -/
theorem zRn_fr2 {t t2 W P : Nat} {u w : ZC} {r s : ZR} {S X : List Nat} {m n c h k : Nat} {K L A B : Nat → Int} (H : zRn u r m n K L A B c h k) (a : zFr t t2 W P u w) (ht : (t < 23 ∨ t = 7777) ∧ (t2 < 23 ∨ t2 = 7777) ∧ t ≠ 0 ∧ t2 ≠ 0) (ht2 : ∀ j, j ≤ k → t ≠ 3 + 4 * j ∧ t2 ≠ 3 + 4 * j) (b : zq S X r s) (hS : [0, 1, 2, 9, 10, 12, 21, 45, 48].all (fun f => !S.contains f) = true) (hX : [3, 4, 5, 6, 7, 8, 11, 13, 14, 15, 30, 31].all (fun f => !X.contains f) = true) (HB : zBs w s) (HP : zPb w c) : zRn w s m n K L A B c h k := by
  have eS : ∀ f, f ∈ [0, 1, 2, 9, 10, 12, 21, 45, 48] → f ∉ S := fun f hf hh => by
    have := List.all_eq_true.1 hS f hf
    rw [List.contains_iff_mem.2 hh] at this
    cases this
  have eX : ∀ f, f ∈ [3, 4, 5, 6, 7, 8, 11, 13, 14, 15, 30, 31] → f ∉ X := fun f hf hh => by
    have := List.all_eq_true.1 hX f hf
    rw [List.contains_iff_mem.2 hh] at this
    cases this
  obtain ⟨⟨h1, h1b, h1c⟩, h2, h3, h4, h5, ⟨-, h6⟩, h7, ⟨h8, h8b⟩, h9⟩ := H
  refine ⟨⟨zTree_fr a ht.1 ht.2.1 b (eS 9 (by decide)) ⟨eX 3 (by decide), eX 4 (by decide), eX 5 (by decide), eX 6 (by decide), eX 7 (by decide), eX 8 (by decide)⟩ h1, by rw [a.1 4 0 (by omega) (by omega)]; exact h1b, zlim_fr a b ⟨eS 0 (by decide), eS 1 (by decide), eS 2 (by decide)⟩ h1c⟩, ?_, ?_, ?_, HB, ⟨HP, zTg_fr a h6⟩, zTs_fr a ⟨ht.2.2.1, ht.2.2.2⟩ b ⟨eS 12 (by decide), eS 10 (by decide)⟩ ⟨eX 11 (by decide), eX 13 (by decide), eX 14 (by decide), eX 15 (by decide)⟩ h7, ⟨h8, by rw [b.1 21 (eS 21 (by decide))]; exact h8b⟩, fun j hj => zPt_fr a (ht2 j hj) b ⟨eX 30 (by decide), eX 31 (by decide)⟩ (h9 j hj)⟩
  · rw [a.1 7 0 (by omega) (by omega), a.1 5 0 (by omega) (by omega), zsum_eq (fun i => b.2.2.1 3 i (eX 3 (by decide))) (fun i => b.2.2.1 7 i (eX 7 (by decide))) 13 0]
    exact h2
  · rw [a.1 8 0 (by omega) (by omega), b.1 45 (eS 45 (by decide))]
    exact h3
  · rw [a.1 9 0 (by omega) (by omega), b.1 48 (eS 48 (by decide))]
    exact h4
theorem copy73 (F : Nat) {v : List Int} (hv : v.length ≤ 160) (x b lev : Nat) (hx : x ≤ 12) (hb : b < 10) (hlev : lev < 5) : ∀ (j k n : Nat) (r : ZR), k + j = v.length → j < n → rI r 42 = (x : Int) → rI r 21 = (lev : Int) → rA r 7 x = (v.length : Int) → zRA r 8 (160 * x) v → (∀ i, i < k → rA r 32 (160 * b + i) = v.getD i 0) → ∃ r2, r_redirect_73 F n r (b : Int) (k : Int) = some (0, tA r2 24 lev (b : Int)) ∧ zRA r2 32 (160 * b) v ∧ zq [] [32] r r2 ∧ (∀ y, (y < 160 * b ∨ 160 * b + 160 ≤ y) → rA r2 32 y = rA r 32 y) := by
  intro j
  induction j with
  | zero =>
    intro k n r hk hn h42 h21 h7 h8 hd
    obtain ⟨n, rfl⟩ : ∃ n', n = n' + 1 := ⟨n - 1, by omega⟩
    refine ⟨r, ?_, fun i hi => hd i (by omega), zq_rf _ _ r, fun _ _ => rfl⟩
    rw [r_redirect_73, h42, if_pos (show zix (x : Int) 13 from ⟨by omega, by omega, by omega⟩), Int.toNat_natCast, h7, if_pos (by rw [zI_le (by omega) (by omega) (by omega) (by omega)]; omega), h21, if_pos (show zix (lev : Int) 5 from ⟨by omega, by omega, by omega⟩), Int.toNat_natCast]
  | succ j ih =>
    intro k n r hk hn h42 h21 h7 h8 hd
    obtain ⟨n, rfl⟩ : ∃ n', n = n' + 1 := ⟨n - 1, by omega⟩
    rw [r_redirect_73, h42, if_pos (show zix (x : Int) 13 from ⟨by omega, by omega, by omega⟩), Int.toNat_natCast, h7, if_neg (by rw [zI_le (by omega) (by omega) (by omega) (by omega)]; omega), if_pos (show zix (160 * (x : Int) + (k : Int)) 2080 from ⟨by omega, by omega, by omega⟩), if_pos (show zix (160 * (b : Int) + (k : Int)) 1600 from ⟨by omega, by omega, by omega⟩)]
    simp only [Option.bind_some]
    rw [show (160 * (x : Int) + (k : Int)).toNat = 160 * x + k by omega, show (160 * (b : Int) + (k : Int)).toNat = 160 * b + k by omega, h8 k (by omega), show (k : Int) + 1 = ((k + 1 : Nat) : Int) by omega]
    obtain ⟨r2, c1, c2, c3, c4⟩ := ih (k + 1) n (tA r 32 (160 * b + k) (v.getD k 0)) (by omega) (by omega) h42 h21 h7 h8 (fun i hi => by
      show (if 32 = 32 ∧ 160 * b + i = 160 * b + k then v.getD k 0 else rA r 32 (160 * b + i)) = _
      by_cases hik : i = k
      · rw [if_pos ⟨rfl, by omega⟩, hik]
      · rw [if_neg (by omega)]
        exact hd i (by omega))
    refine ⟨r2, c1, c2, zq_tr (zq_A _ _ r 32 _ _ (by decide)) c3, fun y hy => ?_⟩
    rw [c4 y hy]
    show (if 32 = 32 ∧ y = 160 * b + k then v.getD k 0 else rA r 32 y) = _
    rw [if_neg (by omega)]
/-- the rows with one of them new -/
theorem zBs_set {u w : ZC} {r s : ZR} {b : Nat} (hb : b < 10) {v : List Int} (H : zBs u r) (hT : ∀ t, t ≠ zbt b → t < 23 → zT u t = zT u t → ∀ l, zT u t l → zT w t l) (hv : v.length ≤ 160) (h1 : zT w (zbt b) v) (h2 : rA s 33 b = (v.length : Int)) (h3 : zRA s 32 (160 * b) v) (h4 : ∀ x, x ≠ b → rA s 33 x = rA r 33 x) (h5 : ∀ y, (y < 160 * b ∨ 160 * b + 160 ≤ y) → rA s 32 y = rA r 32 y) : zBs w s := by
  have hbt := zbt_in b hb
  refine ⟨hT 2 (by omega) (by omega) rfl [] H.1, fun x hx => ?_⟩
  by_cases hxb : x = b
  · subst hxb
    exact ⟨v, h1, hv, h2, h3⟩
  · obtain ⟨l, g1, g2, g3, g4⟩ := H.2 x hx
    have hbx := zbt_in x hx
    refine ⟨l, hT (zbt x) (fun e => hxb (zbt_inj x b e)) (by omega) rfl l g1, g2, by rw [h4 x hxb]; exact g3, fun i hi => ?_⟩
    rw [h5 (160 * x + i) (by omega)]
    exact g4 i hi
theorem redIn_alike (F : Nat) (hF : 200 ≤ F) {u : ZC} {r : ZR} {m n c h k inp : Nat} {K L A B : Nat → Int} (H : zRn u r m n K L A B c h k) (HPa : zPa u r c) (HV : zLv u r c k inp) :
    ∃ (st : Int) (u2 : ZC) (r2 : ZR), cRunner_redirectInput F u k = some (st, u2) ∧ (Option.bind (if zI (rI r 42) < 0 then some true else if zix (rI r 42) 13 then (if zI (rA r 4 (rI r 42).toNat) = 0 then some false else some true) else none) fun (b10 : Bool) => if b10 = true then some ((1 : Int), r) else if zix (rI r 42) 13 then (if zix ((2 * (rI r 21)) + 1) 10 then (Option.bind (some (tA r 33 ((2 * (rI r 21)) + 1).toNat (rA r 7 (rI r 42).toNat))) fun (u11 : ZR) => r_redirect_73 F F u11 ((2 * (rI r 21)) + 1) 0) else none) else none) = some (st, r2) ∧ (st = 0 ∨ st = 1) ∧ zRn u2 r2 m n K L A B c h k ∧ zLv u2 r2 c k inp ∧ zFr (6 + 4 * k) (6 + 4 * k) 0 0 u (sI u2 11 k (cI u 11 k)) ∧ (∀ f o, ¬ (f = 11 ∧ o = k) → cI (sI u2 11 k (cI u 11 k)) f o = cI u2 f o) ∧ zq [] [24, 32, 33] r r2 ∧ (∀ i, i ≠ k → rA r2 24 i = rA r 24 i) := by
  have H0 := H
  obtain ⟨⟨HT, hc4, HL⟩, htot, hst, hran, HB, ⟨HP, HG⟩, HTs, ⟨hk5, h21⟩, HPt⟩ := H
  have hc12 := HT.1
  have hself : ∀ u : ZC, sI u 11 k (cI u 11 k) = u := by
    intro u
    refine Prod.ext ?_ rfl
    funext f o
    show (if f = 11 ∧ o = k then cI u 11 k else u.1 f o) = u.1 f o
    by_cases hh : f = 11 ∧ o = k
    · rw [if_pos hh, hh.1, hh.2]; rfl
    · rw [if_neg hh]
  have hfail : ∀ X Y, X = some ((1 : Int), u) → Y = some ((1 : Int), r) → ∃ (st : Int) (u2 : ZC) (r2 : ZR), X = some (st, u2) ∧ Y = some (st, r2) ∧ (st = 0 ∨ st = 1) ∧ zRn u2 r2 m n K L A B c h k ∧ zLv u2 r2 c k inp ∧ zFr (6 + 4 * k) (6 + 4 * k) 0 0 u (sI u2 11 k (cI u 11 k)) ∧ (∀ f o, ¬ (f = 11 ∧ o = k) → cI (sI u2 11 k (cI u 11 k)) f o = cI u2 f o) ∧ zq [] [24, 32, 33] r r2 ∧ (∀ i, i ≠ k → rA r2 24 i = rA r 24 i) := by
    intro X Y e1 e2
    exact ⟨1, u, r, e1, e2, Or.inr rfl, H0, HV, by rw [hself]; exact zFr_rf _ _ _ _ u, fun f o hh => by rw [hself], zq_rf _ _ r, fun _ _ => rfl⟩
  unfold cRunner_redirectInput
  cases ho : cP u 2 0 with
  | none =>
    apply hfail
    · rfl
    · rw [HPa.1, ho]; rfl
  | some x =>
    have hx := HPa.2.2.1 x ho
    have e42 : rI r 42 = (x : Int) := by rw [HPa.1, ho]; rfl
    have hlx : zlN u x := zlN_of HT hx
    have hz : zix (x : Int) 13 := ⟨by omega, by omega, by omega⟩
    rcases zdir HT x hx with ⟨d1, d2⟩ | ⟨d0, d1, d2⟩
    · apply hfail
      · simp only [Option.bind_some, Option.elim_some, if_pos hlx, d1, Option.elim_none, if_true]
      · rw [e42, if_neg (by rw [zI_lt0 (by omega) (by omega)]; omega), if_pos hz, Int.toNat_natCast, d2, if_neg z10]
        rfl
    · obtain ⟨f1, f2, f3, f4, f5, v, f6, f7, f8, f9⟩ := zfile HT ⟨HL.2.1.1, HL.2.1.2.1⟩ x (x + 23) hx d1
      have hcap : (cN u (6 + 4 * k) : Int) = cI u 5 0 := (HL.2.2.2.2.2 k hk5).2.2.2
      have h5 := HL.2.1
      have hlt : ∀ u : ZC, zlT u (6 + 4 * k) := fun u => Or.inl (by omega)
      obtain ⟨u6, a1, a2, a3⟩ := clear_is F (hlt u)
      have hcN6 : cN u6 = cN u := a3.2.2.2.2.1
      obtain ⟨p, u7, b1, b2, b3, -⟩ := addAll_is F (hlt u6) (zlT_keep a3.2.2.2.2.2 f4) (by rw [hcN6]; omega) (by rw [hcN6]; omega) (by omega) a2 (zFr_T a3 (by omega) f6)
      have f17 := zFr_tr a3 b3
      rw [List.nil_append] at b2
      have hvl : (v.length : Int) ≤ cI u 5 0 := by have := f6.2.1; omega
      have hTv : zT u7 (6 + 4 * k) v := (b2.2.1 (by rw [f17.2.2.2.2.1]; omega)).2
      have hlx6 : zlN u6 x := by
        have := hlx
        unfold zlN at this ⊢
        rw [a3.2.2.2.2.2]
        exact this
      have e6 : cP u6 6 x = some (x + 23) := by rw [a3.2.2.1 6 x (by omega)]; exact d1
      have hbk : zbt (2 * k + 1) = 6 + 4 * k := by unfold zbt; rw [if_neg (by omega)]; omega
      obtain ⟨r3, c1, c2, c3, c4⟩ := copy73 F f7 x (2 * k + 1) k (by omega) (by omega) hk5 v.length 0 F (tA r 33 (2 * k + 1) (v.length : Int)) (by omega) (by omega) e42 h21 f8 f9 (fun i hi => absurd hi (Nat.not_lt_zero i))
      have qq : zq [] [24, 32, 33] r (tA r3 24 k ((2 * k + 1 : Nat) : Int)) := zq_tr (zq_tr (zq_A _ _ r 33 _ _ (by decide)) (zq_mono c3 (by decide) (by decide))) (zq_A _ _ r3 24 _ _ (by decide))
      have HB2 : zBs (sI u7 11 k 1) (tA r3 24 k ((2 * k + 1 : Nat) : Int)) := by
        refine zBs_set (b := 2 * k + 1) (by omega) (v := v) HB (fun t ht ht23 _ l hl => ?_) f7 (by rw [hbk]; exact hTv) ?_ (fun i hi => c2 i hi) (fun y hy => ?_) (fun y hy => ?_)
        · rw [hbk] at ht
          have : zT u7 t l := zFr_T f17 (by omega) hl
          exact this
        · show rA r3 33 (2 * k + 1) = _
          rw [c3.2.2.1 33 _ (by decide)]
          show (if 33 = 33 ∧ 2 * k + 1 = 2 * k + 1 then (v.length : Int) else _) = _
          rw [if_pos ⟨rfl, rfl⟩]
        · show rA r3 33 y = _
          rw [c3.2.2.1 33 _ (by decide)]
          show (if 33 = 33 ∧ y = 2 * k + 1 then (v.length : Int) else rA r 33 y) = _
          rw [if_neg (by omega)]
        · show rA r3 32 y = _
          rw [c4 y hy]
          rfl
      have hH7 : zRn u7 (tA r3 24 k ((2 * k + 1 : Nat) : Int)) m n K L A B c h k := zRn_fr2 H0 f17 ⟨Or.inl (by omega), Or.inl (by omega), by omega, by omega⟩ (fun j hj => by omega) qq (by decide) (by decide) HB2 (zPb_fr f17 HP)
      have hgot : sI (sI u7 11 k 1) 11 k (cI u 11 k) = u7 := by
        refine Prod.ext ?_ rfl
        funext f o
        show (if f = 11 ∧ o = k then cI u 11 k else if f = 11 ∧ o = k then 1 else u7.1 f o) = u7.1 f o
        by_cases hh : f = 11 ∧ o = k
        · rw [if_pos hh, hh.1, hh.2]
          exact (f17.1 11 k (by omega) (by omega)).symm
        · rw [if_neg hh, if_neg hh]
      refine ⟨0, sI u7 11 k 1, tA r3 24 k ((2 * k + 1 : Nat) : Int), ?_, ?_, Or.inl rfl, hH7, ⟨Or.inr ⟨?_, ?_⟩, ?_⟩, by rw [hgot]; exact f17, fun f o hh => ?_, qq, fun i hi => ?_⟩
      · simp only [Option.bind_some, Option.elim_some, if_pos hlx, d1, reduceCtorEq, if_false, if_pos hk5, a1, if_pos hlx6, e6, b1, zb2_some]
      · rw [e42, if_neg (by rw [zI_lt0 (by omega) (by omega)]; omega), if_pos hz, Int.toNat_natCast, d2, if_pos z00]
        simp only [Option.bind_some, reduceCtorEq, if_false, if_pos hz, h21]
        rw [show 2 * (k : Int) + 1 = ((2 * k + 1 : Nat) : Int) by omega, if_pos (show zix ((2 * k + 1 : Nat) : Int) 10 from ⟨by omega, by omega, by omega⟩), Int.toNat_natCast, f8]
        exact c1
      · show (if 11 = 11 ∧ k = k then (1 : Int) else _) = 1
        rw [if_pos ⟨rfl, rfl⟩]
      · show (if 24 = 24 ∧ k = k then ((2 * k + 1 : Nat) : Int) else _) = _
        rw [if_pos ⟨rfl, rfl⟩]
        omega
      · have e4 : cP (sI u7 11 k 1) 4 k = cP u 4 k := f17.2.2.1 4 k (by omega)
        have e26 : rA (tA r3 24 k ((2 * k + 1 : Nat) : Int)) 26 k = rA r 26 k := qq.2.2.1 26 k (by decide)
        rw [e4, e26]
        rcases HV.2 with hv | ⟨y, y1, y2, y3, y4, y5⟩
        · exact Or.inl hv
        · exact Or.inr ⟨y, y1, y2, y3, y4, (f17.2.2.1 6 y (by omega)).trans y5⟩
      · rw [hgot]
        show cI u7 f o = if f = 11 ∧ o = k then 1 else cI u7 f o
        rw [if_neg hh]
      · show (if 24 = 24 ∧ i = k then _ else rA r3 24 i) = _
        rw [if_neg (by omega), c3.2.2.1 24 i (by decide)]
        rfl
