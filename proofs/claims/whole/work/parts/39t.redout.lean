/-! redirections of the output -/
def zT4 (u w : ZC) (t : Nat) : Prop := cI w 0 t = cI u 0 t ∧ cI w 1 t = cI u 1 t ∧ cN w t = cN u t ∧ ∀ i, cA w 0 t i = cA u 0 t i
theorem zT4_H {u w : ZC} {t : Nat} {l : List Int} (a : zT4 u w t) (H : zH u t l) : zH w t l := zH_keep a.1 a.2.1 a.2.2.1 a.2.2.2 H
theorem zT4_tr {u v w : ZC} {t : Nat} (a : zT4 u v t) (b : zT4 v w t) : zT4 u w t := ⟨b.1.trans a.1, b.2.1.trans a.2.1, b.2.2.1.trans a.2.2.1, fun i => (b.2.2.2 i).trans (a.2.2.2 i)⟩
theorem zT4_rf (u : ZC) (t : Nat) : zT4 u u t := ⟨rfl, rfl, rfl, fun _ => rfl⟩
theorem zT4_fr {t s s2 W P : Nat} {u w : ZC} (a : zFr s s2 W P u w) (h : t ≠ s ∧ t ≠ s2 ∧ (W = 1 → t ≠ 1)) : zT4 u w t := ⟨a.1 0 t (by omega) (by omega), a.1 1 t (by omega) (by omega), by rw [a.2.2.2.2.1], fun i => a.2.2.2.1 0 t i (by omega) (by omega)⟩
/-- a target is set on both sides, its content dropped or kept -/
theorem out34 (F : Nat) {u : ZC} {r : ZR} {m n c h k inp : Nat} {K L A B : Nat → Int} (H : zRn u r m n K L A B c h k) (HV : zLv u r c k inp) (x : Nat) (hx : 1 ≤ x ∧ x ≤ c) (h6 : cP u 6 x = some (x + 23)) (em : Bool) :
    ∃ (u2 : ZC) (r2 : ZR), cRunner_redirectOutput_34 F u k (zB em) (some x) = some (0, u2) ∧ r2 = tA (tA r 7 x (if em = true then 0 else rA r 7 x)) 26 k (x : Int) ∧ zRn u2 r2 m n K L A B c h k ∧ zLv u2 r2 c k inp ∧ zLo k u u2 ∧ zT4 u u2 (4 + 4 * k) ∧ ∀ y, cP u2 6 y = cP u 6 y := by
  have H0 := H
  obtain ⟨⟨HT, hc4, HL⟩, htot, hst, hran, HB, ⟨HP, HG⟩, HTs, ⟨hk5, h21⟩, HPt⟩ := H
  have hc12 := HT.1
  have hlx : zlN u x := zlN_of HT hx.2
  obtain ⟨f1, f2, f3, f4, f5, v, f6, f7, f8, f9⟩ := zfile HT ⟨HL.2.1.1, HL.2.1.2.1⟩ x (x + 23) hx.2 h6
  have h5 := HL.2.1
  -- what both sides do with the content
  obtain ⟨u1, g1, g2, g3, g4, g5, g6, g7, g8⟩ : ∃ u1, (if zI (zB em) = 0 then some u else Option.elim (some x) none fun (n11 : Nat) => if zlN u n11 then (Option.bind (some (cP u 6 n11)) fun (o12 : Option Nat) => Option.elim o12 none fun (n13 : Nat) => Option.bind (cTree_empty F u n13) fun (u14 : ZC) => some u14) else none) = some u1 ∧ zRn u1 (tA r 7 x (if em = true then 0 else rA r 7 x)) m n K L A B c h k ∧ cP u1 = cP u ∧ cL u1 = cL u ∧ (∀ o, cI u1 11 o = cI u 11 o) ∧ (∀ t, t < 23 → zT4 u u1 t) ∧ True ∧ True := by
    cases em
    · rw [zB_f, if_pos z00]
      refine ⟨u, rfl, ?_, rfl, rfl, fun _ => rfl, fun t _ => zT4_rf u t, trivial, trivial⟩
      have : tA r 7 x (if false = true then 0 else rA r 7 x) = r := by
        refine Prod.ext rfl (Prod.ext rfl (Prod.ext ?_ rfl))
        funext a j
        show (if a = 7 ∧ j = x then (if false = true then 0 else rA r 7 x) else rA r a j) = rA r a j
        by_cases hh : a = 7 ∧ j = x
        · rw [if_pos hh, if_neg (by decide), hh.1, hh.2]
        · rw [if_neg hh]
      rw [this]
      exact H0
    · obtain ⟨u1, a1, a2, a3⟩ := clear_is F (u := sI u 7 0 (cI u 7 0 - cI u 0 (x + 23))) (t := x + 23) (show zlT u (x + 23) from f4)
      have hT0 : zT u1 (x + 23) [] := (a2.2.1 (Nat.zero_le _)).2
      have eI : ∀ f o, ¬ ((f = 0 ∨ f = 1) ∧ o = x + 23) → ¬ (f = 7 ∧ o = 0) → cI u1 f o = cI u f o := by
        intro f o q1 q2
        rw [a3.1 f o (by omega) (by omega)]
        show (if f = 7 ∧ o = 0 then cI u 7 0 - cI u 0 (x + 23) else cI u f o) = cI u f o
        rw [if_neg q2]
      have e7 : cI u1 7 0 = cI u 7 0 - cI u 0 (x + 23) := by
        rw [a3.1 7 0 (by omega) (by omega)]
        show (if 7 = 7 ∧ 0 = 0 then cI u 7 0 - cI u 0 (x + 23) else cI u 7 0) = _
        rw [if_pos ⟨rfl, rfl⟩]
      have eP : cP u1 = cP u := by funext f o; exact a3.2.2.1 f o (by omega)
      have eA : ∀ f o i, ¬ (f = 0 ∧ o = x + 23) → cA u1 f o i = cA u f o i := fun f o i q => a3.2.2.2.1 f o i (by omega) (by omega)
      have eN : cN u1 = cN u := a3.2.2.2.2.1
      have eL : cL u1 = cL u := a3.2.2.2.2.2
      have e4 : ∀ t, t < 23 → zT4 u u1 t := fun t ht => ⟨eI 0 t (by omega) (by omega), eI 1 t (by omega) (by omega), by rw [eN], fun i => eA 0 t i (by omega)⟩
      have hzT : ∀ t, t < 23 → ∀ l, zT u t l → zT u1 t l := fun t ht l hl => zT_keep (e4 t ht).1 (e4 t ht).2.2.1 (e4 t ht).2.2.2 hl
      refine ⟨u1, ?_, ?_, eP, eL, fun o => eI 11 o (by omega) (by omega), e4, trivial, trivial⟩
      · rw [zB_t, if_neg z10]
        simp only [Option.elim_some, if_pos hlx, Option.bind_some, h6]
        unfold cTree_empty
        rw [if_pos f4, a1]
        rfl
      · rw [if_pos rfl]
        have q7 : zq [] [7] r (tA r 7 x 0) := zq_A _ _ r 7 x 0 (by decide)
        have r7 : ∀ i, i ≠ x → rA (tA r 7 x 0) 7 i = rA r 7 i := fun i hi => by
          show (if 7 = 7 ∧ i = x then 0 else rA r 7 i) = _
          rw [if_neg (by omega)]
        have r7x : rA (tA r 7 x 0) 7 x = 0 := by
          show (if 7 = 7 ∧ x = x then (0 : Int) else _) = _
          rw [if_pos ⟨rfl, rfl⟩]
        have h3x : rA r 3 x = 1 := by
          have := HT.2.2.2.2.2.2.2.1 x (by omega)
          rw [if_pos hx.2] at this
          exact this
        have hsum := (zsum_set (r := r) (s := tA r 7 x 0) x (fun i => rfl) r7 h3x 13 0).1 (by omega)
        rw [r7x] at hsum
        have hfrX : zFr (x + 23) (x + 23) 0 0 (sI u 7 0 (cI u 7 0 - cI u 0 (x + 23))) u1 := a3
        have HT' : zTree (sI u 7 0 (cI u 7 0 - cI u 0 (x + 23))) r c h := HT
        have HT1 : zTree u1 (tA r 7 x 0) c h := zTree_cont (v := []) HT' h5.1 hx h6 (Or.inl hfrX) [] [7] q7 (by decide) (by decide) r7 (fun i j hi hj => rfl) hT0 (show ((([] : List Int).length : Nat) : Int) ≤ cI u 5 0 from h5.1) h5.2.1 r7x (fun i hi => absurd hi (Nat.not_lt_zero i))
        have hnn := zsum_nn HT1 (by rw [eI 5 0 (by omega) (by omega)]; exact h5.1) 13 0 (by omega)
        have hsz : cI u 0 (x + 23) = (v.length : Int) := f6.1
        refine ⟨⟨HT1, by rw [eI 4 0 (by omega) (by omega)]; exact hc4, ?_⟩, ?_, by rw [eI 8 0 (by omega) (by omega)]; exact hst, by rw [eI 9 0 (by omega) (by omega)]; exact hran, ⟨hzT 2 (by omega) [] HB.1, fun b hb => ?_⟩, ⟨by unfold zPb; rw [eP]; exact HP, by unfold zTg; rw [eP]; exact HG⟩, ?_, ⟨hk5, h21⟩, fun j hj => ?_⟩
        · unfold zlim
          rw [eI 4 0 (by omega) (by omega), eI 5 0 (by omega) (by omega), eN]
          exact HL
        · rw [e7, eI 5 0 (by omega) (by omega), hsum]
          refine ⟨by rw [htot.1, hsz, f8]; omega, ?_, by omega⟩
          have : cI u 7 0 - cI u 0 (x + 23) = zsum (tA r 7 x 0) 0 13 := by rw [hsum, htot.1, hsz, f8]; omega
          omega
        · obtain ⟨l, l1, l2, l3, l4⟩ := HB.2 b hb
          exact ⟨l, hzT _ (by have := (zbt_in b hb).2.1; omega) l l1, l2, l3, l4⟩
        · obtain ⟨t1, t2, t3, t4, t5⟩ := HTs
          refine ⟨by rw [eI 2 0 (by omega) (by omega)]; exact t1, t2, by rw [eN]; exact t3, fun j hj => by rw [eA 1 0 j (by omega), eA 2 0 j (by omega), eA 3 0 j (by omega)]; exact t4 j hj, fun i hi => by rw [eA 0 0 i (by omega)]; exact t5 i hi⟩
        · obtain ⟨l, l1, l2, l3⟩ := HPt j hj
          exact ⟨l, hzT _ (by omega) l l1, l2, l3⟩
  refine ⟨sP u1 4 k (some (x + 23)), _, ?_, rfl, ?_, ⟨?_, Or.inr ⟨x, ?_, ?_, hx.1, hx.2, ?_⟩⟩, ?_, ?_, fun y => (show cP u1 6 y = cP u 6 y by rw [g3])⟩
  · have hlx1 : zlN u1 x := by
      have := hlx
      unfold zlN at this ⊢
      rw [g4]
      exact this
    unfold cRunner_redirectOutput_34
    simp only [Option.elim_some, if_pos hlx, Option.bind_some, h6, reduceCtorEq, if_false]
    have g1' : (if zI (zB em) = 0 then some u else Option.bind (cTree_empty F u (x + 23)) fun (u14 : ZC) => some u14) = some u1 := by
      rw [← g1]
      simp only [Option.elim_some, if_pos hlx, Option.bind_some, h6]
    rw [g1']
    simp only [Option.bind_some, if_pos hlx1, if_pos hk5]
    rw [show cP u1 6 x = some (x + 23) by rw [g3]; exact h6]
  · obtain ⟨⟨q1, q2, q3⟩, q4, q5, q6, q7, ⟨q8, q9⟩, q10, q11, q12⟩ := g2
    refine ⟨⟨q1, q2, q3⟩, q4, q5, q6, q7, ⟨q8, fun j hj t ht => ?_⟩, q10, q11, q12⟩
    have ht : (if 4 = 4 ∧ j = k then some (x + 23) else cP u1 4 j) = some t := ht
    by_cases hjk : j = k
    · rw [if_pos ⟨rfl, hjk⟩] at ht
      have := Option.some.inj ht
      omega
    · rw [if_neg (by omega)] at ht
      exact q9 j hj t ht
  · rcases HV.1 with ⟨v1, v2⟩ | ⟨v1, v2⟩
    · exact Or.inl ⟨(g5 k).trans v1, v2⟩
    · exact Or.inr ⟨(g5 k).trans v1, v2⟩
  · show (if 4 = 4 ∧ k = k then some (x + 23) else _) = _
    rw [if_pos ⟨rfl, rfl⟩]
  · show (if 26 = 26 ∧ k = k then (x : Int) else _) = _
    rw [if_pos ⟨rfl, rfl⟩]
  · show cP u1 6 x = _
    rw [g3]
    exact h6
  · intro j hj
    have e4 := g6 (4 + 4 * j) (by omega)
    refine ⟨g5 j, ?_, e4.1, e4.2.1, e4.2.2.2⟩
    show (if 4 = 4 ∧ j = k then some (x + 23) else cP u1 4 j) = cP u 4 j
    rw [if_neg (by omega), g3]
  · exact g6 (4 + 4 * k) (by omega)
