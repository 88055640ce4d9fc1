/-! redirections: with a new file; all of a command's -/
theorem zRn_kt {u w : ZC} {r s : ZR} {S X : List Nat} {m n c h c2 h2 k inp : Nat} {K L A B : Nat → Int} (H : zRn u r m n K L A B c h k) (a : zKt (4 + 4 * k) inp u w) (hi : inp ≠ 0 ∧ ∀ j, inp ≠ 3 + 4 * j) (b : zq S X r s) (hS : [0, 1, 2, 10, 12, 21, 45, 48].all (fun f => !S.contains f) = true) (hX : [11, 13, 14, 15, 30, 31].all (fun f => !X.contains f) = true) (HT : zTree w s c2 h2) (hc : c ≤ c2) (hc2 : (c2 : Int) ≤ cI w 4 0) (hs : zsum s 0 13 = zsum r 0 13) (HB : zBs w s) (HP : zPb w c2) : zRn w s m n K L A B c2 h2 k := by
  have eS : ∀ f, f ∈ [0, 1, 2, 10, 12, 21, 45, 48] → f ∉ S := fun f hf hh => by
    have := List.all_eq_true.1 hS f hf
    rw [List.contains_iff_mem.2 hh] at this
    cases this
  have eX : ∀ f, f ∈ [11, 13, 14, 15, 30, 31] → f ∉ X := fun f hf hh => by
    have := List.all_eq_true.1 hX f hf
    rw [List.contains_iff_mem.2 hh] at this
    cases this
  obtain ⟨⟨-, -, h1c⟩, h2, h3, h4, -, ⟨-, h6⟩, h7, ⟨h8, h8b⟩, h9⟩ := H
  obtain ⟨a1, a2, a3, a4, -⟩ := a
  refine ⟨⟨HT, hc2, ?_⟩, ?_, ?_, ?_, HB, ⟨HP, fun j hj t ht => ?_⟩, ?_, ⟨h8, by rw [b.1 21 (eS 21 (by decide))]; exact h8b⟩, fun j hj => ?_⟩
  · obtain ⟨l1, l2, l3, l4, l5, l6⟩ := h1c
    refine ⟨by rw [a1 4 0 (by omega) (by omega), b.1 0 (eS 0 (by decide))]; exact l1, by rw [a1 5 0 (by omega) (by omega), b.1 1 (eS 1 (by decide))]; exact l2, by rw [b.1 2 (eS 2 (by decide))]; exact l3, by rw [a4 1 (by omega)]; exact l4, by rw [a4 2 (by omega)]; exact l5, fun j hj => ?_⟩
    rw [a4 _ (by omega), a4 _ (by omega), a4 _ (by omega), a4 _ (by omega), b.1 2 (eS 2 (by decide)), a1 5 0 (by omega) (by omega)]
    exact l6 j hj
  · rw [a1 7 0 (by omega) (by omega), a1 5 0 (by omega) (by omega), hs]
    exact h2
  · rw [a1 8 0 (by omega) (by omega), b.1 45 (eS 45 (by decide))]
    exact h3
  · rw [a1 9 0 (by omega) (by omega), b.1 48 (eS 48 (by decide))]
    exact h4
  · rw [a2 j] at ht
    have := h6 j hj t ht
    omega
  · obtain ⟨t1, t2, t3, t4, t5⟩ := h7
    refine ⟨by rw [a1 2 0 (by omega) (by omega)]; exact t1, by rw [b.1 12 (eS 12 (by decide))]; exact t2, by rw [a4 0 (by omega), b.1 10 (eS 10 (by decide))]; exact t3, fun j hj => ?_, fun i hi2 => ?_⟩
    · rw [a3 1 0 j (by omega), a3 2 0 j (by omega), a3 3 0 j (by omega), b.2.2.1 13 j (eX 13 (by decide)), b.2.2.1 14 j (eX 14 (by decide)), b.2.2.1 15 j (eX 15 (by decide))]
      exact t4 j hj
    · rw [a3 0 0 i (by omega), b.2.2.1 11 i (eX 11 (by decide))]
      exact t5 i hi2
  · obtain ⟨l, l1, l2, l3⟩ := h9 j hj
    have := hi.2 j
    exact ⟨l, zT_keep (a1 0 _ (by omega) (by omega)) (a4 _ (by omega)) (fun i => a3 0 _ i (by omega)) l1, by rw [b.2.2.1 31 j (eX 31 (by decide))]; exact l2, fun i hi2 => by rw [b.2.2.1 30 _ (eX 30 (by decide))]; exact l3 i hi2⟩
theorem zKt_lo {out inp k : Nat} {u w : ZC} (a : zKt out inp u w) (ho : ∀ j, j < k → out ≠ 4 + 4 * j ∧ inp ≠ 4 + 4 * j) (hk : k ≤ 5) : zLo k u w := by
  intro j hj
  have := ho j hj
  exact ⟨a.1 11 j (by omega) (by omega), a.2.1 j, a.1 0 _ (by omega) (by omega), a.1 1 _ (by omega) (by omega), fun i => a.2.2.1 0 _ i (by omega)⟩
/-- the target of an output, on both sides -/
theorem redOut_alike (F : Nat) (hF : 200 ≤ F) {u : ZC} {r : ZR} {m n c h k inp : Nat} {K L A B : Nat → Int} (H : zRn u r m n K L A B c h k) (HPa : zPa u r c) (HV : zLv u r c k inp) (em : Bool) (op : Int) (hop : op = if em = true then 7 else 6) :
    ∃ (st st2 : Int) (c2 : Nat) (u2 : ZC) (r2 : ZR), cRunner_redirectOutput F u k (zB em) = some (st, u2) ∧ (Option.bind (if zI (rI r 42) < 0 then (if 0 ≤ zI (rI r 42) then some false else if 0 ≤ zI (rI r 43) then some false else some true) else if zix (rI r 42) 13 then (if ¬ zI (rA r 4 (rI r 42).toNat) = 0 then some true else if 0 ≤ zI (rI r 42) then some false else if 0 ≤ zI (rI r 43) then some false else some true) else none) fun (b3 : Bool) => if b3 = true then some ((1 : Int), r) else zb2 (if 0 ≤ zI (rI r 42) then some (rI r 42, r) else zb2 (r_made F r 0) fun (p4 : Int) (u5 : ZR) => some (p4, u5)) fun (x6 : Int) (u7 : ZR) => if 0 ≤ zI x6 then (Option.bind (if ¬ zI op = zI 7 then (if zix x6 13 then some (rA u7 7 x6.toNat) else none) else some 0) fun (x8 : Int) => if zix x6 13 then (if zix (rI (tA u7 7 x6.toNat x8) 21) 5 then (Option.bind (some (tA (tA u7 7 x6.toNat x8) 26 (rI (tA u7 7 x6.toNat x8) 21).toNat x6)) fun (u9 : ZR) => some ((0 : Int), u9)) else none) else none) else some ((-9 : Int), u7)) = some (st2, r2) ∧ ((st2 = st ∧ (st = 0 ∨ st = 1)) ∨ (st = 100 ∧ st2 = -9)) ∧ zRn u2 r2 m n K L A B c2 h k ∧ c ≤ c2 ∧ zLv u2 r2 c2 k inp ∧ zLo k u u2 ∧ zT4 u u2 (4 + 4 * k) ∧ zq [] [3, 4, 5, 6, 7, 26] r r2 ∧ (∀ i, i ≠ k → rA r2 26 i = rA r 26 i) ∧ ∀ y, y ≤ c → cP u2 6 y = cP u 6 y := by
  have H0 := H
  obtain ⟨⟨HT, hc4, HL⟩, htot, hst, hran, HB, ⟨HP, HG⟩, HTs, ⟨hk5, h21⟩, HPt⟩ := H
  have hc12 := HT.1
  have h7op : ∀ v : Int, (if ¬ zI op = zI 7 then some v else some 0) = some (if em = true then 0 else v) := by
    intro v
    rw [hop]
    cases em
    · rfl
    · rfl
  -- the last step over a file x
  have hlast : ∀ (c2 x : Nat) (u1 : ZC) (r1 : ZR), zRn u1 r1 m n K L A B c2 h k → zLv u1 r1 c2 k inp → 1 ≤ x ∧ x ≤ c2 → cP u1 6 x = some (x + 23) → c ≤ c2 → zLo k u u1 → zT4 u u1 (4 + 4 * k) → zq [] [3, 4, 5, 6, 7, 26] r r1 → (∀ i, i ≠ k → rA r1 26 i = rA r 26 i) → (∀ y, y ≤ c → cP u1 6 y = cP u 6 y) → ∀ X Y, X = cRunner_redirectOutput_34 F u1 k (zB em) (some x) → Y = (Option.bind (if ¬ zI op = zI 7 then (if zix (x : Int) 13 then some (rA r1 7 (x : Int).toNat) else none) else some 0) fun (x8 : Int) => if zix (x : Int) 13 then (if zix (rI (tA r1 7 (x : Int).toNat x8) 21) 5 then (Option.bind (some (tA (tA r1 7 (x : Int).toNat x8) 26 (rI (tA r1 7 (x : Int).toNat x8) 21).toNat (x : Int))) fun (u9 : ZR) => some ((0 : Int), u9)) else none) else none) → ∃ (st st2 : Int) (c2 : Nat) (u2 : ZC) (r2 : ZR), X = some (st, u2) ∧ Y = some (st2, r2) ∧ ((st2 = st ∧ (st = 0 ∨ st = 1)) ∨ (st = 100 ∧ st2 = -9)) ∧ zRn u2 r2 m n K L A B c2 h k ∧ c ≤ c2 ∧ zLv u2 r2 c2 k inp ∧ zLo k u u2 ∧ zT4 u u2 (4 + 4 * k) ∧ zq [] [3, 4, 5, 6, 7, 26] r r2 ∧ (∀ i, i ≠ k → rA r2 26 i = rA r 26 i) ∧ ∀ y, y ≤ c → cP u2 6 y = cP u 6 y := by
    intro c2 x u1 r1 g1 g2 g3 g4 g5 g6 g7 g8 g9 g10 X Y eX eY
    have hc12' := g1.1.1.1
    obtain ⟨u2, r2, o1, o2, o3, o4, o5, o6, o7⟩ := out34 F g1 g2 x g3 g4 em
    have hz : zix (x : Int) 13 := ⟨by omega, by omega, by omega⟩
    have h21' : rI r1 21 = (k : Int) := g1.2.2.2.2.2.2.2.1.2
    refine ⟨0, 0, c2, u2, r2, by rw [eX]; exact o1, ?_, Or.inl ⟨rfl, Or.inl rfl⟩, o3, g5, o4, zLo_tr g6 o5, zT4_tr g7 o6, ?_, fun i hi => ?_, fun y hy => (o7 y).trans (g10 y hy)⟩
    · rw [eY]
      simp only [if_pos hz, Int.toNat_natCast]
      rw [h7op]
      simp only [Option.bind_some]
      have e21 : ∀ v, rI (tA r1 7 x v) 21 = (k : Int) := fun v => h21'
      rw [e21, if_pos (show zix (k : Int) 5 from ⟨by omega, by omega, by omega⟩), Int.toNat_natCast, o2]
    · rw [o2]
      exact zq_tr g8 (zq_tr (zq_A _ _ r1 7 _ _ (by decide)) (zq_A _ _ _ 26 _ _ (by decide)))
    · rw [o2]
      show (if 26 = 26 ∧ i = k then (x : Int) else rA r1 26 i) = _
      rw [if_neg (by omega)]
      exact g9 i hi
  unfold cRunner_redirectOutput
  cases hv : cP u 3 0 with
  | none =>
    have e43 : rI r 43 = -1 := by rw [HPa.2.1, hv]; rfl
    simp only [Option.bind_some, Option.elim_none]
    cases ho : cP u 2 0 with
    | none =>
      have e42 : rI r 42 = -1 := by rw [HPa.1, ho]; rfl
      rw [e42, e43, if_pos (by decide), if_neg (by decide), if_neg (by decide)]
      exact ⟨1, 1, c, u, r, rfl, rfl, Or.inl ⟨rfl, Or.inr rfl⟩, H0, Nat.le_refl _, HV, zLo_rf _ _, zT4_rf _ _, zq_rf _ _ r, fun _ _ => rfl, fun _ _ => rfl⟩
    | some x =>
      have hx := HPa.2.2.1 x ho
      have e42 : rI r 42 = (x : Int) := by rw [HPa.1, ho]; rfl
      have hlx : zlN u x := zlN_of HT hx
      have hz : zix (x : Int) 13 := ⟨by omega, by omega, by omega⟩
      rw [e42, if_neg (by rw [zI_lt0 (by omega) (by omega)]; omega), if_pos hz, Int.toNat_natCast]
      rcases zdir HT x hx with ⟨d1, d2⟩ | ⟨d0, d1, d2⟩
      · rw [d2, if_pos z10]
        refine ⟨1, 1, c, u, r, ?_, rfl, Or.inl ⟨rfl, Or.inr rfl⟩, H0, Nat.le_refl _, HV, zLo_rf _ _, zT4_rf _ _, zq_rf _ _ r, fun _ _ => rfl, fun _ _ => rfl⟩
        unfold cRunner_redirectOutput_34
        simp only [Option.elim_some, if_pos hlx, Option.bind_some, d1, Option.elim_none, if_true]
      · have h0x : 0 ≤ zI (x : Int) := by rw [zI_0le (by omega) (by omega)]; omega
        rw [d2, if_neg (not_not_intro z00), if_pos h0x]
        simp only [Option.bind_some, reduceCtorEq, if_false, if_pos h0x, zb2_some]
        exact hlast c x u r H0 HV ⟨d0, hx⟩ d1 (Nat.le_refl _) (zLo_rf _ _) (zT4_rf _ _) (zq_rf _ _ r) (fun _ _ => rfl) (fun _ _ => rfl) _ _ rfl rfl
  | some d =>
    obtain ⟨⟨hd, hdd⟩, -, -, ho, -⟩ := HPa.2.2.2 d hv
    have e43 : rI r 43 = (d : Int) := by rw [HPa.2.1, hv]; rfl
    have e42 : rI r 42 = -1 := by rw [HPa.1, ho]; rfl
    have hn1 : zI (-1) < 0 := by decide
    have h0n : ¬ 0 ≤ zI (-1) := by decide
    have hd0 : 0 ≤ zI (d : Int) := by rw [zI_0le (by omega) (by omega)]; omega
    rw [ho, e42, e43]
    simp only [if_pos hn1, if_neg h0n, if_pos hd0, Option.bind_some, Option.elim_some, if_pos hk5, reduceCtorEq, if_false]
    rcases make_alike F (by omega) HT HL hc4 HG HPa d hv true with ⟨a1, a2, a3⟩ | ⟨a1, w, s, a2, a3, a4, a5, a6, a7, a8, a9, a10, a11⟩
    · have a2' : cTree_make F u 1 = some (none, u) := a2
      have a3' : r_made F r 0 = some (-1, r) := a3
      rw [a2', a3']
      simp only [zb2_some, Option.elim_none, if_neg h0n]
      exact ⟨100, -9, c, u, r, rfl, rfl, Or.inr ⟨rfl, rfl⟩, H0, Nat.le_refl _, HV, zLo_rf _ _, zT4_rf _ _, zq_rf _ _ r, fun _ _ => rfl, fun _ _ => rfl⟩
    · have a2' : cTree_make F u 1 = some (some (c + 1), w) := a2
      have a3' : r_made F r 0 = some ((c : Int) + 1, s) := a3
      rw [a2', a3']
      simp only [zb2_some, Option.elim_some]
      have hKt : zKt (4 + 4 * k) 2 u w := zKt_mk a6
      have hP2 : ∀ f, f = 2 ∨ f = 3 → cP w f 0 = cP u f 0 := fun f hf => a6.2.2.1 f 0 (by omega) (by omega)
      have HPw : zPb w (c + 1) := by
        constructor
        · intro y hy
          rw [hP2 2 (Or.inl rfl)] at hy
          have := HP.1 y hy
          omega
        · intro y hy
          rw [hP2 3 (Or.inr rfl)] at hy
          have := HP.2 y hy
          omega
      have Hw : zRn w s m n K L A B (c + 1) h k := zRn_kt H0 hKt ⟨by decide, fun j => by omega⟩ a7 (by decide) (by decide) a4 (by omega) (by rw [a6.1 4 0 (by omega) (by omega)]; omega) a8 (zBs_mk a6 a7 (by decide) HB) HPw
      have hw6 : cP w 6 (c + 1) = some (c + 1 + 23) := by
        have := a5.2.2.1 6 (c + 1)
        rw [if_neg (by omega), if_neg (by omega), if_pos ⟨rfl, rfl⟩, if_pos rfl] at this
        exact this
      have HVw : zLv w s (c + 1) k inp := by
        refine ⟨?_, ?_⟩
        · rw [a6.1 11 k (by omega) (by omega), a7.2.2.1 24 k (by decide)]
          exact HV.1
        · rw [a6.2.2.1 4 k (by omega) (by omega), a7.2.2.1 26 k (by decide)]
          rcases HV.2 with hv | ⟨y, y1, y2, y3, y4, y5⟩
          · exact Or.inl hv
          · exact Or.inr ⟨y, y1, y2, y3, by omega, by rw [a6.2.2.1 6 y (by omega) (by omega)]; exact y5⟩
      have h0x : 0 ≤ zI ((c : Int) + 1) := by rw [zI_0le (by omega) (by omega)]; omega
      rw [if_pos h0x]
      have hE : (c : Int) + 1 = ((c + 1 : Nat) : Int) := by omega
      rw [hE]
      exact hlast (c + 1) (c + 1) w s Hw HVw ⟨by omega, Nat.le_refl _⟩ hw6 (by omega) (zKt_lo hKt (fun j hj => by omega) (by omega)) ⟨a6.1 0 _ (by omega) (by omega), a6.1 1 _ (by omega) (by omega), a6.2.2.2.2.1 _ (by omega), fun i => a6.2.2.2.1 0 _ i (by omega)⟩ (zq_mono a7 (by decide) (by decide)) (fun i _ => a7.2.2.1 26 i (by decide)) (fun y hy => a6.2.2.1 6 y (by omega) (by omega)) _ _ rfl rfl
