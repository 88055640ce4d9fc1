/-! a new node, on both sides -/
/-- targets of the levels -/
def zTg (u : ZC) (c : Nat) : Prop := ∀ k : Nat, k < 5 → ∀ t : Nat, cP u 4 k = some t → 24 ≤ t ∧ t ≤ c + 23
/-- what a new node changes -/
def zMk (c : Nat) (u w : ZC) : Prop :=
  (∀ f o, ¬ ((f = 0 ∨ f = 1) ∧ o = c + 24) → ¬ (f = 6 ∧ o = 0) → cI w f o = cI u f o) ∧
  (∀ f o, ¬ (f = 0 ∧ o = c + 1) → cJ w f o = cJ u f o) ∧
  (∀ f o, ¬ ((f = 5 ∨ f = 6 ∨ f = 7) ∧ o = c + 1) → ¬ (f = 0 ∧ o = 0) → cP w f o = cP u f o) ∧
  (∀ f o i, ¬ (f = 0 ∧ o = c + 24) → cA w f o i = cA u f o i) ∧ (∀ t, t ≠ c + 24 → cN w t = cN u t) ∧ ∃ x, cL w = cL u ++ x
/-- readings of the state with a new node -/
def zNew (u w : ZC) (fl : Bool) (c d : Nat) (nm : Int64) (len : Nat) : Prop :=
  (∀ f o, cI w f o = if f = 6 ∧ o = 0 then (c : Int) + 1 else if fl = true ∧ o = c + 24 ∧ (f = 0 ∨ f = 1) then 0 else cI u f o) ∧
  (∀ f o, cJ w f o = if f = 0 ∧ o = c + 1 then nm else cJ u f o) ∧
  (∀ f o, cP w f o = if f = 0 ∧ o = 0 then some (c + 1) else if f = 5 ∧ o = c + 1 then some d else if f = 6 ∧ o = c + 1 then (if fl = true then some (c + 24) else none) else if f = 7 ∧ o = c + 1 then some c else cP u f o) ∧
  (∀ f o i, cA w f o i = if fl = true ∧ f = 0 ∧ o = c + 24 then 0 else cA u f o i) ∧
  (∀ t, cN w t = if fl = true ∧ t = c + 24 then len else cN u t) ∧
  cL w = cL u ++ (if fl = true then [(1, c + 24), (2, c + 24), (3, c + 1)] else [(3, c + 1)])
theorem zNew_Mk {u w : ZC} {fl : Bool} {c d len : Nat} {nm : Int64} (H : zNew u w fl c d nm len) : zMk c u w := by
  obtain ⟨h1, h2, h3, h4, h5, h6⟩ := H
  refine ⟨fun f o g1 g2 => ?_, fun f o g => ?_, fun f o g1 g2 => ?_, fun f o i g => ?_, fun t g => ?_, _, h6⟩
  · rw [h1, if_neg g2, if_neg (fun hh => g1 ⟨hh.2.2, hh.2.1⟩)]
  · rw [h2, if_neg g]
  · rw [h3, if_neg g2, if_neg (by omega), if_neg (by omega), if_neg (by omega)]
  · rw [h4, if_neg (fun hh => g hh.2)]
  · rw [h5, if_neg (fun hh => g hh.2)]
/-- the class makes it -/
theorem cmake_is (F : Nat) {u : ZC} {r : ZR} {c h : Nat} (HT : zTree u r c h) (HL : zlim u r) (hc : (c : Int) ≤ cI u 4 0) (HG : zTg u c) (d : Nat) (h2 : ∀ n, cP u 2 0 = some n → n ≤ c) (h3 : cP u 3 0 = some d) (hd : d ≤ c) (fl : Bool) :
    (cI u 4 0 ≤ (c : Int) ∧ cTree_make F u (zB fl) = some (none, u)) ∨ ((c : Int) < cI u 4 0 ∧ ∃ w, cTree_make F u (zB fl) = some (some (c + 1), w) ∧ zNew u w fl c d (cJ u 1 0) (cI u 5 0).toNat) := by
  obtain ⟨t1, t2, t3, t4, t5, t6, t7, t8, t9, t10, t11, t12, t13, t14⟩ := HT
  obtain ⟨l1, l2, l3, -⟩ := HL
  have e6 : (cI u 6 0).toNat = c := by rw [t2]; omega
  by_cases hfull : cI u 4 0 ≤ (c : Int)
  · refine Or.inl ⟨hfull, ?_⟩
    unfold cTree_make
    rw [h3]
    simp only [Option.elim_some]
    rw [if_pos (by rw [t2, zI_le (by omega) (by omega) (by omega) (by omega)]; exact hfull)]
  · refine Or.inr ⟨by omega, ?_⟩
    have hguard : (0 ≤ cI u 6 0 ∧ cI u 6 0 < 1000) ∧ (0 ≤ cI u 5 0 ∧ cI u 5 0 ≤ 160) ∧ zlN u d ∧ zlO u (cP u 0 0) ∧ zfr u ((cI u 6 0).toNat + 1) ∧ (3, (cI u 6 0).toNat + 1) ∉ cL u ∧ (1, (cI u 6 0).toNat + 24) ∉ cL u ∧ (2, (cI u 6 0).toNat + 24) ∉ cL u ∧ (∀ i ∈ cL u, i.1 ≠ 4) := by
      rw [e6]
      have hlive : ∀ n, n ≤ c → zlN u n := fun n hn => by
        by_cases h0 : n = 0
        · exact Or.inl h0
        · exact Or.inr (t10 n (by omega) hn).2.2.2.1
      refine ⟨by omega, by omega, hlive d hd, ?_, ⟨fun f hf => ?_, fun k hk => ?_, fun i hi => ?_⟩, fun hh => ?_, fun hh => ?_, fun hh => ?_, fun i hi => (by have := t13 i hi; omega)⟩
      · rw [t3]
        show decide (zlN u c) = true
        exact decide_eq_true (hlive c (Nat.le_refl _))
      · simp only [List.mem_cons, List.not_mem_nil, or_false] at hf
        rcases hf with rfl | rfl | rfl | rfl
        · rw [t3]; intro hh; have := Option.some.inj hh; omega
        · rw [t4]; intro hh; have := Option.some.inj hh; omega
        · intro hh; have := h2 _ hh; omega
        · rw [h3]; intro hh; have := Option.some.inj hh; omega
      · intro hh
        have := HG k (by simp only [List.mem_cons, List.not_mem_nil, or_false] at hk; omega) _ hh
        omega
      · have hall : ∀ n : Nat, cP u 5 n ≠ some (c + 1) ∧ cP u 6 n ≠ some (c + 1 + 23) ∧ cP u 7 n ≠ some (c + 1) := by
          intro n
          by_cases hn : c < n
          · obtain ⟨a1, a2, a3⟩ := t14 n hn
            rw [a1, a2, a3]
            exact ⟨fun hh => (by cases hh), fun hh => (by cases hh), fun hh => (by cases hh)⟩
          · by_cases h0 : n = 0
            · subst h0
              rw [t9.1, t9.2.1, t9.2.2.1]
              exact ⟨fun hh => (by cases hh), fun hh => (by cases hh), fun hh => (by cases hh)⟩
            · obtain ⟨⟨p, a0, a1, -⟩, a2, -, -, -, a3⟩ := t10 n (by omega) (by omega)
              rw [a1, a2]
              refine ⟨fun hh => (by have := Option.some.inj hh; omega), ?_, fun hh => (by have := Option.some.inj hh; omega)⟩
              rcases a3 with ⟨a3, -⟩ | ⟨a3, -⟩
              · rw [a3]; exact fun hh => (by cases hh)
              · rw [a3]; exact fun hh => (by have := Option.some.inj hh; omega)
        exact hall i.2
      · have := t13 _ hh; omega
      · have := t13 _ hh; omega
      · have := t13 _ hh; omega
    unfold cTree_make
    rw [h3]
    simp only [Option.elim_some]
    rw [if_neg (by rw [t2, zI_le (by omega) (by omega) (by omega) (by omega)]; exact hfull), if_pos hguard, e6]
    cases fl
    · rw [zB_f, if_pos z00]
      refine ⟨_, rfl, fun f o => ?_, fun f o => ?_, fun f o => ?_, fun f o i => ?_, fun t => ?_, ?_⟩
      · show (if f = 6 ∧ o = 0 then cI u 6 0 + 1 else cI u f o) = _
        rw [t2]
        simp only [reduceCtorEq, false_and, if_false]
      · rfl
      · show (if f = 0 ∧ o = 0 then some (c + 1) else if f = 5 ∧ o = c + 1 then some d else if f = 6 ∧ o = c + 1 then none else if f = 7 ∧ o = c + 1 then cP u 0 0 else cP u f o) = _
        rw [t3]
        simp only [reduceCtorEq, if_false]
      · show cA u f o i = _
        simp only [reduceCtorEq, false_and, if_false]
      · show cN u t = _
        simp only [reduceCtorEq, false_and, if_false]
      · rfl
    · rw [zB_t, if_neg z10]
      refine ⟨_, rfl, fun f o => ?_, fun f o => ?_, fun f o => ?_, fun f o i => ?_, fun t => ?_, ?_⟩
      · show (if f = 6 ∧ o = 0 then cI u 6 0 + 1 else if o = c + 24 ∧ (f = 0 ∨ f = 1) then 0 else cI u f o) = _
        rw [t2]
        simp only [true_and]
      · rfl
      · show (if f = 0 ∧ o = 0 then some (c + 1) else if f = 5 ∧ o = c + 1 then some d else if f = 6 ∧ o = c + 1 then some (c + 24) else if f = 7 ∧ o = c + 1 then cP u 0 0 else cP u f o) = _
        rw [t3]
        simp only [if_true]
      · show (if f = 0 ∧ o = c + 24 then 0 else cA u f o i) = _
        simp only [true_and]
      · show (if t = c + 24 then _ else cN u t) = _
        simp only [true_and]
      · show cL u ++ [(1, c + 24), (2, c + 24)] ++ [(3, c + 1)] = _
        rw [List.append_assoc]
        rfl
/-- the reference makes it -/
def zNr (r w : ZR) (c : Nat) (v d : Int) (nm : Int64) : Prop := w = tA (tL (tA (tA (tA r 3 (c + 1) 1) 4 (c + 1) v) 5 (c + 1) d) 6 (c + 1) nm) 7 (c + 1) 0
theorem rmade_loop (F : Nat) {u : ZC} {r : ZR} {c h : Nat} (HT : zTree u r c h) (v : Int) (hv : v = 0 ∨ v = 1) (hlim : rI r 0 = cI u 4 0) (hl : 1 ≤ cI u 4 0 ∧ cI u 4 0 ≤ 12) : ∀ (k n : Nat), k ≤ 12 → k < n →
    r_made_8 F n r v (if k < c then (c : Int) - k else 0) (if max c k < 12 then ((max c k + 1 : Nat) : Int) else 0) (k : Int) = if (c : Int) < cI u 4 0 then some ((c : Int) + 1, tA (tL (tA (tA (tA r 3 (c + 1) 1) 4 (c + 1) v) 5 (c + 1) (rI r 43)) 6 (c + 1) (rJ r 44)) 7 (c + 1) 0) else some (-1, r) := by
  have hc12 := HT.1
  have h3 := HT.2.2.2.2.2.2.2.1
  intro k
  induction k with
  | zero =>
    intro n hk hn
    obtain ⟨n, rfl⟩ : ∃ n', n = n' + 1 := ⟨n - 1, by omega⟩
    rw [r_made_8, if_pos (by decide), hlim]
    have e1 : (if 0 < c then (c : Int) - ((0 : Nat) : Int) else 0) = (c : Int) := by split <;> omega
    rw [e1]
    by_cases hfull : (c : Int) < cI u 4 0
    · have e2 : (if max c 0 < 12 then ((max c 0 + 1 : Nat) : Int) else 0) = ((c + 1 : Nat) : Int) := by rw [if_pos (by omega)]; congr 1; omega
      have hz : zix ((c + 1 : Nat) : Int) 13 := ⟨by omega, by omega, by omega⟩
      rw [if_pos (by rw [zI_lt (by omega) (by omega) (by omega) (by omega)]; exact hfull), if_pos hfull, e2, if_pos hz, if_pos (show zbl v from hv)]
      simp only [Option.bind_some, if_pos hz, Int.toNat_natCast]
      rw [show ((c + 1 : Nat) : Int) = (c : Int) + 1 by omega]
      rfl
    · rw [if_neg (by rw [zI_lt (by omega) (by omega) (by omega) (by omega)]; exact hfull), if_neg hfull]
  | succ k ih =>
    intro n hk hn
    obtain ⟨n, rfl⟩ : ∃ n', n = n' + 1 := ⟨n - 1, by omega⟩
    have hz : zix ((k + 1 : Nat) : Int) 13 := ⟨by omega, by omega, by omega⟩
    rw [← ih n (by omega) (by omega), r_made_8, if_neg (by rw [zI_lt (by omega) (by omega) (by omega) (by omega)]; omega), if_pos hz, Int.toNat_natCast, h3 (k + 1) (by omega)]
    have ek : ((k + 1 : Nat) : Int) + (-1) = (k : Int) := by omega
    rw [ek]
    by_cases hkc : k + 1 ≤ c
    · rw [if_pos hkc]
      simp only [if_neg z10, Option.bind_some]
      congr 1
      · rw [if_pos (show k < c by omega)]
        split <;> omega
      · rw [show max c (k + 1) = max c k by omega]
    · rw [if_neg hkc]
      simp only [if_pos z00, Option.bind_some]
      congr 1
      · rw [if_neg (by omega), if_neg (by omega)]
      · rw [if_pos (show max c k < 12 by omega)]
        congr 1
        omega
theorem rmade_is (F : Nat) (hF : 20 ≤ F) {u : ZC} {r : ZR} {c h : Nat} (HT : zTree u r c h) (v : Int) (hv : v = 0 ∨ v = 1) (hlim : rI r 0 = cI u 4 0) (hl : 1 ≤ cI u 4 0 ∧ cI u 4 0 ≤ 12) : r_made F r v = if (c : Int) < cI u 4 0 then some ((c : Int) + 1, tA (tL (tA (tA (tA r 3 (c + 1) 1) 4 (c + 1) v) 5 (c + 1) (rI r 43)) 6 (c + 1) (rJ r 44)) 7 (c + 1) 0) else some (-1, r) := by
  have hc12 := HT.1
  have := rmade_loop F HT v hv hlim hl 12 F (by omega) (by omega)
  rw [if_neg (show ¬ 12 < c by omega), if_neg (show ¬ max c 12 < 12 by omega)] at this
  exact this
/-- and the tree stands on both sides -/
theorem zNew_tree {u w : ZC} {r : ZR} {c h d len : Nat} {nm : Int64} {fl : Bool} (HT : zTree u r c h) (H : zNew u w fl c d nm len) (hc : c < 12) (hd : d ≤ c) (hdd : cP u 6 d = none) (hnm : zNm nm) (hlen : (len : Int) = cI u 5 0) (hl0 : 0 ≤ cI u 5 0) (hno : ∀ x, 1 ≤ x → x ≤ c → ¬ zM u d nm x) :
    zTree w (tA (tL (tA (tA (tA r 3 (c + 1) 1) 4 (c + 1) (zB (!fl))) 5 (c + 1) (d : Int)) 6 (c + 1) nm) 7 (c + 1) 0) (c + 1) h := by
  obtain ⟨t1, t2, t3, t4, t5, t6, t7, t8, t9, t10, t11, t12, t13, t14⟩ := HT
  obtain ⟨h1, h2, h3, h4, h5, h6⟩ := H
  have R3 : ∀ n, rA (tA (tL (tA (tA (tA r 3 (c + 1) 1) 4 (c + 1) (zB (!fl))) 5 (c + 1) (d : Int)) 6 (c + 1) nm) 7 (c + 1) 0) 3 n = if n = c + 1 then 1 else rA r 3 n := by
    intro n
    show (if 3 = 7 ∧ n = c + 1 then 0 else if 3 = 5 ∧ n = c + 1 then (d : Int) else if 3 = 4 ∧ n = c + 1 then zB (!fl) else if 3 = 3 ∧ n = c + 1 then 1 else rA r 3 n) = _
    simp
  have R4 : ∀ n, rA (tA (tL (tA (tA (tA r 3 (c + 1) 1) 4 (c + 1) (zB (!fl))) 5 (c + 1) (d : Int)) 6 (c + 1) nm) 7 (c + 1) 0) 4 n = if n = c + 1 then zB (!fl) else rA r 4 n := by
    intro n
    show (if 4 = 7 ∧ n = c + 1 then 0 else if 4 = 5 ∧ n = c + 1 then (d : Int) else if 4 = 4 ∧ n = c + 1 then zB (!fl) else if 4 = 3 ∧ n = c + 1 then 1 else rA r 4 n) = _
    simp
  have R5 : ∀ n, rA (tA (tL (tA (tA (tA r 3 (c + 1) 1) 4 (c + 1) (zB (!fl))) 5 (c + 1) (d : Int)) 6 (c + 1) nm) 7 (c + 1) 0) 5 n = if n = c + 1 then (d : Int) else rA r 5 n := by
    intro n
    show (if 5 = 7 ∧ n = c + 1 then 0 else if 5 = 5 ∧ n = c + 1 then (d : Int) else if 5 = 4 ∧ n = c + 1 then zB (!fl) else if 5 = 3 ∧ n = c + 1 then 1 else rA r 5 n) = _
    simp
  have R7 : ∀ n, rA (tA (tL (tA (tA (tA r 3 (c + 1) 1) 4 (c + 1) (zB (!fl))) 5 (c + 1) (d : Int)) 6 (c + 1) nm) 7 (c + 1) 0) 7 n = if n = c + 1 then 0 else rA r 7 n := by
    intro n
    show (if 7 = 7 ∧ n = c + 1 then 0 else if 7 = 5 ∧ n = c + 1 then (d : Int) else if 7 = 4 ∧ n = c + 1 then zB (!fl) else if 7 = 3 ∧ n = c + 1 then 1 else rA r 7 n) = _
    simp
  have R8 : ∀ n, rA (tA (tL (tA (tA (tA r 3 (c + 1) 1) 4 (c + 1) (zB (!fl))) 5 (c + 1) (d : Int)) 6 (c + 1) nm) 7 (c + 1) 0) 8 n = rA r 8 n := by
    intro n
    show (if 8 = 7 ∧ n = c + 1 then 0 else if 8 = 5 ∧ n = c + 1 then (d : Int) else if 8 = 4 ∧ n = c + 1 then zB (!fl) else if 8 = 3 ∧ n = c + 1 then 1 else rA r 8 n) = _
    simp
  have R6 : ∀ n, rL (tA (tL (tA (tA (tA r 3 (c + 1) 1) 4 (c + 1) (zB (!fl))) 5 (c + 1) (d : Int)) 6 (c + 1) nm) 7 (c + 1) 0) 6 n = if n = c + 1 then nm else rL r 6 n := by
    intro n
    show (if 6 = 6 ∧ n = c + 1 then nm else rL r 6 n) = _
    simp
  have P5 : ∀ n, cP w 5 n = if n = c + 1 then some d else cP u 5 n := by intro n; rw [h3]; simp
  have P6 : ∀ n, cP w 6 n = if n = c + 1 then (if fl = true then some (c + 24) else none) else cP u 6 n := by intro n; rw [h3]; simp
  have P7 : ∀ n, cP w 7 n = if n = c + 1 then some c else cP u 7 n := by intro n; rw [h3]; simp
  have J0 : ∀ n, cJ w 0 n = if n = c + 1 then nm else cJ u 0 n := by intro n; rw [h2]; simp
  have I5 : cI w 5 0 = cI u 5 0 := by rw [h1, if_neg (by omega), if_neg (by omega)]
  have hsub : ∀ i, i ∈ cL u → i ∈ cL w := fun i hi => by rw [h6]; exact List.mem_append_left _ hi
  have hmem3 : (3, c + 1) ∈ cL w := by
    rw [h6]
    apply List.mem_append_right
    cases fl
    · simp
    · simp
  refine ⟨by omega, ?_, ?_, ?_, ?_, by omega, ?_, fun n hn => ?_, ?_, fun n hn1 hn2 => ?_, ?_, fun x y hx hxy hy => ?_, fun i hi => ?_, fun n hn => ?_⟩
  · rw [h1, if_pos ⟨rfl, rfl⟩]
    omega
  · rw [h3, if_pos ⟨rfl, rfl⟩]
  · rw [h3, if_neg (by omega), if_neg (by omega), if_neg (by omega), if_neg (by omega)]
    exact t4
  · exact t5
  · rw [P6, if_neg (by omega)]
    exact t7
  · rw [R3, t8 n hn]
    by_cases hnc : n = c + 1
    · rw [if_pos hnc, if_pos (by omega)]
    · rw [if_neg hnc]
      by_cases hn2 : n ≤ c
      · rw [if_pos hn2, if_pos (by omega)]
      · rw [if_neg hn2, if_neg (by omega)]
  · rw [P5, P6, P7, R4, R5, R7, if_neg (by omega), if_neg (by omega), if_neg (by omega), if_neg (by omega), if_neg (by omega), if_neg (by omega)]
    exact t9
  · by_cases hnc : n = c + 1
    · subst hnc
      refine ⟨⟨d, by omega, by rw [P5, if_pos rfl], by rw [R5, if_pos rfl], by rw [P6, if_neg (by omega)]; exact hdd⟩, by rw [P7, if_pos rfl]; rfl, by rw [J0, R6, if_pos rfl, if_pos rfl], hmem3, by rw [J0, if_pos rfl]; exact hnm, ?_⟩
      rw [P6, if_pos rfl, R4, if_pos rfl, R7, if_pos rfl]
      cases hfl : fl
      · exact Or.inl ⟨rfl, rfl, rfl⟩
      · subst hfl
        have i0 : cI w 0 (c + 1 + 23) = 0 := by rw [h1, if_neg (by omega), if_pos ⟨rfl, by omega, Or.inl rfl⟩]
        refine Or.inr ⟨rfl, rfl, ?_, ?_, ?_, ?_, ?_, ?_, fun i hi => ?_⟩
        · rw [h6]; simp
        · rw [h6]; simp
        · rw [h5, if_pos ⟨rfl, by omega⟩, I5]
          exact hlen
        · rw [i0]; exact Int.le_refl _
        · rw [i0, I5]; exact hl0
        · exact i0.symm
        · rw [i0] at hi; omega
    · obtain ⟨⟨p, a0, a1, a2, a3⟩, a4, a5, a6, a7, a8⟩ := t10 n hn1 (by omega)
      have i0 : cI w 0 (n + 23) = cI u 0 (n + 23) := by rw [h1, if_neg (by omega), if_neg (by omega)]
      have A0 : ∀ i, cA w 0 (n + 23) i = cA u 0 (n + 23) i := fun i => by rw [h4, if_neg (by omega)]
      refine ⟨⟨p, a0, by rw [P5, if_neg hnc]; exact a1, by rw [R5, if_neg hnc]; exact a2, by rw [P6, if_neg (by omega)]; exact a3⟩, by rw [P7, if_neg hnc]; exact a4, by rw [J0, R6, if_neg hnc, if_neg hnc]; exact a5, hsub _ a6, by rw [J0, if_neg hnc]; exact a7, ?_⟩
      rw [P6, if_neg hnc, R4, if_neg hnc, R7, if_neg hnc, I5, i0, h5, if_neg (by omega)]
      simp only [A0, R8]
      rcases a8 with a8 | ⟨b1, b2, b3, b4, b5⟩
      · exact Or.inl a8
      · exact Or.inr ⟨b1, b2, hsub _ b3, hsub _ b4, b5⟩
  · rw [h6, List.length_append]
    cases fl
    · simp only [reduceCtorEq, if_false, List.length_singleton]; omega
    · simp only [if_true, List.length_cons, List.length_nil]; omega
  · rw [P5, P5, J0, J0]
    by_cases hyc : y = c + 1
    · rw [if_pos hyc, if_pos hyc, if_neg (by omega), if_neg (by omega)]
      rintro ⟨g1, g2⟩
      exact hno x hx (by omega) ⟨g1, g2⟩
    · rw [if_neg hyc, if_neg hyc, if_neg (by omega), if_neg (by omega)]
      exact t12 x y hx hxy (by omega)
  · rw [h6] at hi
    rcases List.mem_append.1 hi with hi | hi
    · have := t13 i hi
      omega
    · cases fl
      · simp only [reduceCtorEq, if_false, List.mem_singleton] at hi
        subst hi
        exact Or.inl ⟨rfl, by show 1 ≤ c + 1; omega, Nat.le_refl _⟩
      · simp only [if_true, List.mem_cons, List.not_mem_nil, or_false] at hi
        rcases hi with rfl | rfl | rfl
        · exact Or.inr ⟨Or.inl rfl, by show 24 ≤ c + 24; omega, by show c + 24 ≤ c + 1 + 23; omega⟩
        · exact Or.inr ⟨Or.inr rfl, by show 24 ≤ c + 24; omega, by show c + 24 ≤ c + 1 + 23; omega⟩
        · exact Or.inl ⟨rfl, by show 1 ≤ c + 1; omega, Nat.le_refl _⟩
  · rw [P5, P6, P7, if_neg (by omega), if_neg (by omega), if_neg (by omega)]
    exact t14 n (by omega)
theorem zsum_new {u : ZC} {r : ZR} {c h : Nat} (HT : zTree u r c h) (hc : c < 12) (v d : Int) (nm : Int64) : ∀ (j k : Nat), k + j = 13 → zsum (tA (tL (tA (tA (tA r 3 (c + 1) 1) 4 (c + 1) v) 5 (c + 1) d) 6 (c + 1) nm) 7 (c + 1) 0) k j = zsum r k j := by
  intro j
  induction j with
  | zero => intro k _; rfl
  | succ j ih =>
    intro k hk
    have R3 : rA (tA (tL (tA (tA (tA r 3 (c + 1) 1) 4 (c + 1) v) 5 (c + 1) d) 6 (c + 1) nm) 7 (c + 1) 0) 3 k = if k = c + 1 then 1 else rA r 3 k := by
      show (if 3 = 7 ∧ k = c + 1 then 0 else if 3 = 5 ∧ k = c + 1 then d else if 3 = 4 ∧ k = c + 1 then v else if 3 = 3 ∧ k = c + 1 then 1 else rA r 3 k) = _
      simp
    have R7 : rA (tA (tL (tA (tA (tA r 3 (c + 1) 1) 4 (c + 1) v) 5 (c + 1) d) 6 (c + 1) nm) 7 (c + 1) 0) 7 k = if k = c + 1 then 0 else rA r 7 k := by
      show (if 7 = 7 ∧ k = c + 1 then 0 else if 7 = 5 ∧ k = c + 1 then d else if 7 = 4 ∧ k = c + 1 then v else if 7 = 3 ∧ k = c + 1 then 1 else rA r 7 k) = _
      simp
    simp only [zsum, ih (k + 1) (by omega), R3, R7]
    by_cases hkc : k = c + 1
    · subst hkc
      have := HT.2.2.2.2.2.2.2.1 (c + 1) (by omega)
      rw [if_neg (by omega)] at this
      simp [this, z00]
    · simp only [hkc, if_false]
