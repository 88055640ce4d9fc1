/-! check: the grammar and the words on both sides -/
theorem znx_in (s k d : Int) (hs : 0 ≤ s ∧ s ≤ 9) : -1 ≤ znx s k d ∧ znx s k d ≤ 9 := by
  unfold znx
  repeat' split
  all_goals omega
theorem zrk_eq {k : Int} (hk : 0 ≤ k ∧ k ≤ 10) : (zrk k = 8 ↔ k = 5) ∧ (zrk k = 9 ↔ k = 6) ∧ (zrk k = 0 ↔ k = 10) ∧ (0 ≤ zrk k ∧ zrk k ≤ 10) ∧ (zrk k = 1 ↔ k = 0) ∧ (zrk k = 2 ↔ k = 1) ∧ (zrk k = 3 ↔ k = 2) ∧ (zrk k = 4 ↔ k = 3) ∧ (zrk k = 10 ↔ k = 4) ∧ (zrk k = 5 ↔ k = 7) ∧ (zrk k = 7 ↔ k = 8) ∧ (zrk k = 6 ↔ k = 9) := by
  have hk' : k = 0 ∨ k = 1 ∨ k = 2 ∨ k = 3 ∨ k = 4 ∨ k = 5 ∨ k = 6 ∨ k = 7 ∨ k = 8 ∨ k = 9 ∨ k = 10 := by omega
  rcases hk' with rfl | rfl | rfl | rfl | rfl | rfl | rfl | rfl | rfl | rfl | rfl <;> decide
theorem rgram_loop (F : Nat) {r : ZR} {K : Nat → Int} {m : Nat} (hm : 1 ≤ m) (hm64 : m ≤ 64) (h12 : rI r 12 = (m : Int)) (hK : ∀ j : Nat, j < m → (0 ≤ K j ∧ K j ≤ 10) ∧ rA r 13 j = zrk (K j)) : ∀ (f p n : Nat) (s d : Int), m - p = f → p ≤ m → f < n → 0 ≤ s ∧ s ≤ 9 → -(p : Int) ≤ d ∧ d ≤ p → r_grammar_15 F n r s d (p : Int) = some (if zA K m p s d = true then 1 else 0, r) := by
  intro f
  induction f with
  | zero =>
    intro p n s d hf hp hn hs hd
    obtain ⟨n, rfl⟩ : ∃ n', n = n' + 1 := ⟨n - 1, by omega⟩
    have hpe : p = m := by omega
    subst hpe
    rw [r_grammar_15, h12, if_pos (by rw [zI_le (by omega) (by omega) (by omega) (by omega)]; omega), if_neg (by rw [zI_eq0 (by omega) (by omega)]; omega), zA_end]
    simp (disch := omega) only [zI_lt, zI_le, zI_eq, zI_eq0, zI_lt0, zI_0lt, zI_le0, zI_0le, zI_eq33, zI_eq38, zI_eq40, zI_eq41, zI_eq59, zI_eq60, zI_eq62, zI_eq124]
    by_cases h0 : d = 0
    · by_cases h1 : s = 1
      · simp [h0, h1]
      · by_cases h5 : s = 5
        · simp [h0, h5]
        · by_cases h6 : s = 6
          · simp [h0, h6]
          · simp [h0, h1, h5, h6]
    · simp [h0]
  | succ f ih =>
    intro p n s d hf hp hn hs hd
    obtain ⟨n, rfl⟩ : ∃ n', n = n' + 1 := ⟨n - 1, by omega⟩
    have hpm : p < m := by omega
    obtain ⟨hk, hr⟩ := hK p hpm
    have hx := znx_in s (K p) d hs
    have hq := zrk_eq hk
    have hzz : zix (p : Int) 64 := ⟨by omega, by omega, by omega⟩
    rw [r_grammar_15, h12, if_neg (by rw [zI_le (by omega) (by omega) (by omega) (by omega)]; omega), if_pos hzz, Int.toNat_natCast, hr, next_is F r s (K p) d hs hk (by omega)]
    simp only [Option.bind_some]
    simp (disch := omega) only [zI_lt, zI_le, zI_eq, zI_eq0, zI_lt0, zI_0lt, zI_le0, zI_0le, zI_eq33, zI_eq38, zI_eq40, zI_eq41, zI_eq59, zI_eq60, zI_eq62, zI_eq124]
    rw [zA_step hpm]
    by_cases h0 : 0 ≤ znx s (K p) d
    · have hnd : Option.bind (if ¬ zrk (K p) = 8 then if ¬ zrk (K p) = 9 then some d else some (d - 1) else some (d + 1)) (fun (x6 : Int) => r_grammar_15 F n r (znx s (K p) d) x6 ((p : Int) + 1)) = r_grammar_15 F n r (znx s (K p) d) (znd (K p) d) ((p : Int) + 1) := by
        unfold znd
        by_cases h5 : K p = 5
        · rw [if_neg (not_not_intro (hq.1.2 h5)), if_pos h5]
          rfl
        · rw [if_pos (fun h => h5 (hq.1.1 h)), if_neg h5]
          by_cases h6 : K p = 6
          · rw [if_neg (not_not_intro (hq.2.1.2 h6)), if_pos h6]
            rfl
          · rw [if_pos (fun h => h6 (hq.2.1.1 h)), if_neg h6]
            rfl
      have hdd : -(p : Int) - 1 ≤ znd (K p) d ∧ znd (K p) d ≤ p + 1 := by
        unfold znd
        repeat' split
        all_goals omega
      rw [if_pos h0, hnd, if_neg (show ¬ znx s (K p) d < 0 by omega), show (p : Int) + 1 = ((p + 1 : Nat) : Int) by omega, ih (p + 1) n (znx s (K p) d) (znd (K p) d) (by omega) (by omega) (by omega) ⟨h0, hx.2⟩ (by omega)]
    · rw [if_neg h0, if_pos (show znx s (K p) d < 0 by omega)]
      rfl
/-- the class's reader from the first token on -/
theorem read_top (F : Nat) (hF : 70 ≤ F) {u : ZC} {m : Nat} (H : zG u m) (hm : 1 ≤ m) : ∃ (b : Int) (p2 : Nat), cGrammar_readList F 6 (zU u 0) 0 = some (b, zU u p2) ∧ p2 ≤ m ∧ ((b = 0 ∧ zA (cA u 1 0) m 0 0 0 = false) ∨ (b = 1 ∧ zA (cA u 1 0) m 0 0 0 = decide (p2 = m))) := by
  obtain ⟨b, p2, c1, c2, c3, c4⟩ := (readList_is F hF H hm 6 0 (by omega) (by omega) (by omega) 0 (by omega)).2 (by omega)
  refine ⟨b, p2, c1, c3, ?_⟩
  rcases c4 with c4 | ⟨c4, c5, s2, c6, c7⟩
  · exact Or.inl c4
  · refine Or.inr ⟨c4, ?_⟩
    rw [c7]
    by_cases hp : p2 = m
    · have hs : s2 = 1 ∨ s2 = 5 ∨ s2 = 6 := by
        rcases c6 with h | h
        · exact Or.inl h.1
        · exact Or.inr h.1.1
      rw [hp, zA_end]
      simp [hs]
    · rw [zE3_no H c3 c6 (Or.inr (by omega)) (Or.inl (fun h => hp (zkt_11 H p2 c3 h)))]
      simp [hp]
/-- both sides cut the line and read it -/
theorem gram_alike (F : Nat) (hF : 70 ≤ F) (u : ZC) (r : ZR) (h : zln u r) : ∃ (a : Int) (u2 : ZC) (r2 : ZR), cGrammar_accepts F u = some (a, u2) ∧ r_grammar F r = some (a, r2) ∧ zfT u u2 ∧ zfR r r2 ∧ (a = 0 ∨ a = 1 ∧ ∃ m : Nat, zTk u2 r2 m (cI u 0 0).toNat ∧ (m = 0 ∨ zA (cA u2 1 0) m 0 0 0 = true)) := by
  obtain ⟨⟨h0, h1⟩, h2, h3, h4⟩ := h
  have hn : cI u 0 0 = ((cI u 0 0).toNat : Int) := by omega
  have HL : zLn (sI u 2 0 0) (cI u 0 0).toNat := ⟨hn, h3, by omega, fun i hi => (h4 i (by omega)).2⟩
  have HR : zLr (tI r 12 0) (cA (sI u 2 0 0) 0 0) (cI u 0 0).toNat := ⟨h2.trans hn, by omega, fun i hi => ⟨(h4 i (by omega)).1.symm, (h4 i (by omega)).2⟩⟩
  have HT : zTk (sI u 2 0 0) (tI r 12 0) 0 0 := ⟨rfl, rfl, Nat.le_refl _, fun j hj => by omega, fun i j _ hj => by omega⟩
  obtain ⟨a, u2, r2, c1, c2, c3, c4, c5⟩ := cut_loop F hF ((cI u 0 0).toNat - 0) 0 (sI u 2 0 0) (tI r 12 0) 0 F F rfl (by omega) HL HR HT (by omega) (by omega)
  have c1' : cTokens_cutLine F u = some (a, u2) := c1
  have c2' : r_cut F r = some (a, r2) := c2
  have hfu : zfT u u2 := by
    refine zfT_tr (v := sI u 2 0 0) ⟨fun f o h => ?_, fun _ _ => rfl, fun _ _ => rfl, fun _ _ _ _ => rfl, rfl, rfl⟩ c3
    show (if f = 2 ∧ o = 0 then 0 else cI u f o) = cI u f o
    rw [if_neg (by omega)]
  have hfr : zfR r r2 := by
    refine zfR_tr (v := tI r 12 0) ⟨fun f h => ?_, fun _ => rfl, fun _ _ _ => rfl, fun _ _ => rfl⟩ c4
    show (if f = 12 then 0 else rI r f) = rI r f
    rw [if_neg h]
  have hfU : ∀ p : Nat, zfT u (zU u2 p) := by
    intro p
    refine zfT_tr hfu ⟨fun f o h => ?_, fun _ _ => rfl, fun _ _ => rfl, fun _ _ _ _ => rfl, rfl, rfl⟩
    show (if f = 3 ∧ o = 0 then (p : Int) else cI u2 f o) = cI u2 f o
    rw [if_neg (by omega)]
  unfold cGrammar_accepts r_grammar
  rw [c1', c2']
  rcases c5 with ha | ⟨ha, m, hT⟩
  · subst ha
    simp only [zb2_some, z00, not_true, if_false]
    exact ⟨0, u2, r2, rfl, rfl, hfu, hfr, Or.inl rfl⟩
  · subst ha
    obtain ⟨t1, t2, t3, t4, t5⟩ := hT
    have hG : zG u2 m := ⟨t1, by omega, fun j hj => (t4 j hj).1⟩
    simp only [zb2_some, z10, not_false_iff, if_true]
    have e0 : sI u2 3 0 0 = zU u2 0 := rfl
    have e2 : ∀ p, cI (zU u2 p) 2 0 = (m : Int) := fun p => t1
    have e3 : ∀ p : Nat, cI (zU u2 p) 3 0 = (p : Int) := fun p => rfl
    have hTU : ∀ p : Nat, zTk (zU u2 p) r2 m (cI u 0 0).toNat := fun p => ⟨t1, t2, t3, t4, t5⟩
    rw [e0, e2]
    by_cases hm : m = 0
    · subst hm
      rw [if_pos (by decide)]
      simp only [zb2_some]
      rw [if_pos (Or.inr rfl)]
      refine ⟨1, zU u2 0, r2, rfl, ?_, hfU 0, hfr, Or.inr ⟨rfl, 0, hTU 0, Or.inl rfl⟩⟩
      obtain ⟨F, rfl⟩ : ∃ n', F = n' + 1 := ⟨F - 1, by omega⟩
      rw [r_grammar_15, t2]
      rfl
    · rw [if_neg (by rw [zI_eq0 (by omega) (by omega)]; omega)]
      have hr := rgram_loop F (r := r2) (K := cA u2 1 0) (by omega) (by omega) t2 (fun j hj => ⟨(t4 j hj).1, (t4 j hj).2.1⟩) m 0 F 0 0 (by omega) (by omega) (by omega) (by omega) (by omega)
      have hr' : r_grammar_15 F F r2 0 0 0 = some (if zA (cA u2 1 0) m 0 0 0 = true then 1 else 0, r2) := hr
      obtain ⟨b, p2, g1, g2, g3⟩ := read_top F hF hG (by omega)
      rw [hr', g1]
      rcases g3 with ⟨g3, g4⟩ | ⟨g3, g4⟩
      · subst g3
        simp only [zb2_some, z00, if_true, Option.bind_some, g4, reduceCtorEq, if_false]
        rw [if_pos (Or.inl rfl)]
        exact ⟨0, zU u2 p2, r2, rfl, rfl, hfU p2, hfr, Or.inl rfl⟩
      · subst g3
        simp only [zb2_some, z10, if_false, e2, e3, zI_eq (a := (p2 : Int)) (b := (m : Int)) (by omega) (by omega) (by omega) (by omega), g4]
        by_cases hpm : p2 = m
        · simp only [hpm, not_true, if_false, Option.bind_some, reduceCtorEq, zb2_some, decide_true, if_true]
          rw [if_pos (Or.inr rfl)]
          refine ⟨1, zU u2 m, r2, rfl, rfl, hfU m, hfr, Or.inr ⟨rfl, m, hTU m, Or.inr ?_⟩⟩
          rw [show cA (zU u2 m) 1 0 = cA u2 1 0 from rfl, g4, hpm]
          exact decide_eq_true rfl
        · have hpm' : ¬ (p2 : Int) = (m : Int) := by omega
          simp only [hpm, hpm', not_false_iff, if_true, Option.bind_some, zb2_some, decide_false, reduceCtorEq, if_false]
          rw [if_pos (Or.inl rfl)]
          exact ⟨0, zU u2 p2, r2, rfl, rfl, hfU p2, hfr, Or.inl rfl⟩
/-- the words are counted alike -/
theorem words_loop (F : Nat) {u : ZC} {r : ZR} {m p : Nat} (H : zTk u r m p) (hm : m ≤ 64) : ∀ (f i n n2 : Nat) (a : Int), m - i = f → i ≤ m → f < n → f < n2 → ∃ b : Int, cTokens_countWords_4 F n u a (i : Int) = some b ∧ r_check_13 F n2 r a (i : Int) = some (b, r) := by
  obtain ⟨t1, t2, t3, t4, t5⟩ := H
  intro f
  induction f with
  | zero =>
    intro i n n2 a hf hi hn hn2
    obtain ⟨n, rfl⟩ : ∃ n', n = n' + 1 := ⟨n - 1, by omega⟩
    obtain ⟨n2, rfl⟩ : ∃ n', n2 = n' + 1 := ⟨n2 - 1, by omega⟩
    refine ⟨a, ?_, ?_⟩
    · rw [cTokens_countWords_4, t1, if_pos (by rw [zI_le (by omega) (by omega) (by omega) (by omega)]; omega)]
    · rw [r_check_13, t2, if_pos (by rw [zI_le (by omega) (by omega) (by omega) (by omega)]; omega)]
  | succ f ih =>
    intro i n n2 a hf hi hn hn2
    obtain ⟨n, rfl⟩ : ∃ n', n = n' + 1 := ⟨n - 1, by omega⟩
    obtain ⟨n2, rfl⟩ : ∃ n', n2 = n' + 1 := ⟨n2 - 1, by omega⟩
    obtain ⟨g1, g2, -⟩ := t4 i (by omega)
    have hq := zrk_eq g1
    have hz : zix (i : Int) 64 := ⟨by omega, by omega, by omega⟩
    have hc : ¬ zI (m : Int) ≤ zI (i : Int) := by rw [zI_le (by omega) (by omega) (by omega) (by omega)]; omega
    simp only [cTokens_countWords_4, r_check_13, t1, t2, if_neg hc, if_pos hz, Int.toNat_natCast, g2]
    simp (disch := omega) only [zI_lt, zI_le, zI_eq, zI_eq0, zI_lt0, zI_0lt, zI_le0, zI_0le, zI_eq33, zI_eq38, zI_eq40, zI_eq41, zI_eq59, zI_eq60, zI_eq62, zI_eq124]
    rw [show (i : Int) + 1 = ((i + 1 : Nat) : Int) by omega]
    by_cases h10 : cA u 1 0 i = 10
    · rw [if_neg (not_not_intro h10), if_neg (not_not_intro (hq.2.2.1.2 h10))]
      exact ih (i + 1) n n2 (a + 1) (by omega) (by omega) (by omega) (by omega)
    · rw [if_pos h10, if_pos (fun h => h10 (hq.2.2.1.1 h))]
      simp only [Option.bind_some, Int.add_zero]
      exact ih (i + 1) n n2 a (by omega) (by omega) (by omega) (by omega)
theorem zln_keep {u w : ZC} {r s : ZR} (a : zfT u w) (b : zfR r s) (h : zln u r) : zln w s := by
  obtain ⟨⟨h0, h1⟩, h2, h3, h4⟩ := h
  have e0 := a.1 0 0 (by omega)
  refine ⟨⟨by rw [e0]; exact h0, by rw [e0]; exact h1⟩, by rw [b.1 10 (by omega), e0]; exact h2, by rw [a.2.2.2.2.1]; exact h3, fun i hi => ?_⟩
  rw [a.2.2.2.1 0 0 i (by omega), b.2.2.1 11 i (by omega)]
  exact h4 i (by rw [← e0]; exact hi)
theorem step_check (F : Nat) (hF : 70 ≤ F) (u : ZC) (r : ZR) (H : zRel u r) : ∃ (a : Int) (u2 : ZC) (r2 : ZR), cShell_check F u = some (a, u2) ∧ r_check F r = some (a, r2) ∧ cL u2 = cL u ∧ zRel u2 r2 := by
  obtain ⟨a, u2, r2, c1, c2, c3, c4, c5⟩ := gram_alike F hF u r H.1
  have hRel := zRel_keep (zfT_kC c3) (zfR_kR c4) (zln_keep c3 c4 H.1) H
  unfold cShell_check r_check
  rw [c1, c2]
  have hn := H.1.1
  rcases c5 with ha | ⟨ha, m, hT, -⟩
  · subst ha
    exact ⟨-1, u2, r2, rfl, rfl, c3.2.2.2.2.2, hRel⟩
  · subst ha
    have hm : m ≤ 64 := by
      have := hT.2.2.1
      omega
    obtain ⟨b, g1, g2⟩ := words_loop F hT hm m 0 F F 0 (by omega) (by omega) (by omega) (by omega)
    have g1' : cTokens_countWords F u2 = some b := g1
    have g2' : r_check_13 F F r2 0 0 = some (b, r2) := g2
    simp only [zb2_some, z10, if_false, not_false_iff, if_true, g1', g2', Option.bind_some]
    exact ⟨b, u2, r2, rfl, rfl, c3.2.2.2.2.2, hRel⟩
