/-! the grammar: pipelines, lists, the whole line; the reference's loop -/
theorem readPipeline_loop (F : Nat) (hF : 70 ≤ F) {u : ZC} {m : Nat} (H : zG u m) (hm : 1 ≤ m) (rec : ZC → Int → Option (Int × ZC)) (d : Int) (hd : 0 ≤ d ∧ d ≤ 4) (hrec : zRec u m rec (d + 1)) : ∀ (f p i n : Nat) (s : Int), m - p ≤ f → p ≤ m → 2 * i ≤ p → f < n → 0 ≤ s ∧ s < 4 → (s = 3 ∨ zkt (cA u 1 0) m p ≠ 4) → (s = 1 → zkt (cA u 1 0) m p ≠ 6 ∧ zkt (cA u 1 0) m p ≠ 11) →
    ∃ (b : Int) (p2 : Nat), cGrammar_readPipeline_27 F rec n (zU u p) d (i : Int) = some (b, zU u p2) ∧ p ≤ p2 ∧ p2 ≤ m ∧ ((b = 0 ∧ zA (cA u 1 0) m p s d = false) ∨ (b = 1 ∧ p < p2 ∧ ∃ s2, zE2 (cA u 1 0) m p2 s2 ∧ zkt (cA u 1 0) m p2 ≠ 3 ∧ zA (cA u 1 0) m p s d = zA (cA u 1 0) m p2 s2 d)) := by
  have hm64 := H.2.1
  intro f
  induction f with
  | zero =>
    intro p i n s hf hp hi hn hs k4 k6
    obtain ⟨n, rfl⟩ : ∃ n', n = n' + 1 := ⟨n - 1, by omega⟩
    have e2 : cI (zU u p) 2 0 = (m : Int) := H.1
    obtain ⟨b, p2, c1, c2, c3, c4⟩ := readCommand_is F hF H hm rec d hd hrec p s hp hs k4 k6
    rw [cGrammar_readPipeline_27, e2, if_neg (by rw [zI_le (by omega) (by omega) (by omega) (by omega)]; omega), c1]
    have hb : b = 0 ∧ zA (cA u 1 0) m p s d = false := by
      rcases c4 with c4 | ⟨c4, c5, c6⟩
      · exact c4
      · omega
    simp only [hb.1, zb2_some, z00, not_true, if_false]
    exact ⟨0, p2, rfl, c2, c3, Or.inl ⟨rfl, hb.2⟩⟩
  | succ f ih =>
    intro p i n s hf hp hi hn hs k4 k6
    obtain ⟨n, rfl⟩ : ∃ n', n = n' + 1 := ⟨n - 1, by omega⟩
    have e2 : cI (zU u p) 2 0 = (m : Int) := H.1
    obtain ⟨b, p2, c1, c2, c3, c4⟩ := readCommand_is F hF H hm rec d hd hrec p s hp hs k4 k6
    rw [cGrammar_readPipeline_27, e2, if_neg (by rw [zI_le (by omega) (by omega) (by omega) (by omega)]; omega), c1]
    have e3 : cI (zU u p2) 3 0 = (p2 : Int) := rfl
    have hk2 := zkt_in H p2
    rcases c4 with ⟨c4, c5⟩ | ⟨c4, c5, s2, c6, c7⟩
    · subst c4
      simp only [zb2_some, z00, not_true, if_false]
      exact ⟨0, p2, rfl, c2, c3, Or.inl ⟨rfl, c5⟩⟩
    · subst c4
      simp only [zb2_some, z10, not_false_iff, if_true, e3, kindAt_is F H p2 p2 (by omega), Option.bind_some, zI_eq (a := zkt (cA u 1 0) m p2) (b := 3) (by omega) (by omega) (by omega) (by omega)]
      by_cases k3 : zkt (cA u 1 0) m p2 = 3
      · obtain ⟨hpm2, hK2⟩ := zkt_lt H p2 (by omega)
        rw [if_pos k3, zU_U u p2 _ (p2 + 1) (by omega), show (i : Int) + 1 = ((i + 1 : Nat) : Int) by omega]
        obtain ⟨b3, p3, g1, g2, g3, g4⟩ := ih (p2 + 1) (i + 1) n 3 (by omega) (by omega) (by omega) (by omega) (by omega) (Or.inl rfl) (fun h => absurd h (by decide))
        have st : zA (cA u 1 0) m p2 s2 d = zA (cA u 1 0) m (p2 + 1) 3 d := by
          refine zA_go hpm2 (hK2.trans k3) ?_ (by decide) rfl
          have := c6.1
          unfold znx
          rw [if_neg (by omega), if_neg (by omega), if_neg (by omega), if_neg (by omega), if_neg (by omega), if_neg (by omega), if_neg (by omega), if_neg (by omega), if_pos rfl]
        rw [c7, st]
        refine ⟨b3, p3, g1, by omega, g3, ?_⟩
        rcases g4 with ⟨g4, g5⟩ | ⟨g4, g5, g6⟩
        · exact Or.inl ⟨g4, g5⟩
        · exact Or.inr ⟨g4, by omega, g6⟩
      · rw [if_neg k3]
        exact ⟨1, p2, rfl, c2, c3, Or.inr ⟨rfl, c5, s2, c6, k3, c7⟩⟩
theorem readPipeline_is (F : Nat) (hF : 70 ≤ F) {u : ZC} {m : Nat} (H : zG u m) (hm : 1 ≤ m) (rec : ZC → Int → Option (Int × ZC)) (d : Int) (hd : 0 ≤ d ∧ d ≤ 4) (hrec : zRec u m rec (d + 1)) (p : Nat) (s : Int) (hp : p ≤ m) (hs : 0 ≤ s ∧ s < 3) (k6 : s = 1 → zkt (cA u 1 0) m p ≠ 6 ∧ zkt (cA u 1 0) m p ≠ 11) :
    ∃ (b : Int) (p2 : Nat), cGrammar_readPipeline F rec (zU u p) d = some (b, zU u p2) ∧ p ≤ p2 ∧ p2 ≤ m ∧ ((b = 0 ∧ zA (cA u 1 0) m p s d = false) ∨ (b = 1 ∧ p < p2 ∧ ∃ s2, zE2 (cA u 1 0) m p2 s2 ∧ zkt (cA u 1 0) m p2 ≠ 3 ∧ zA (cA u 1 0) m p s d = zA (cA u 1 0) m p2 s2 d)) := by
  have hm64 := H.2.1
  have e3 : cI (zU u p) 3 0 = (p : Int) := rfl
  have hk := zkt_in H p
  unfold cGrammar_readPipeline
  rw [e3, kindAt_is F H p p (by omega)]
  simp only [Option.bind_some, zI_eq (a := zkt (cA u 1 0) m p) (b := 4) (by omega) (by omega) (by omega) (by omega)]
  by_cases h4 : zkt (cA u 1 0) m p = 4
  · obtain ⟨hpm, hK⟩ := zkt_lt H p (by omega)
    simp only [h4, not_true, if_false, Option.bind_some]
    rw [zU_U u p _ (p + 1) (by omega)]
    obtain ⟨b3, p3, g1, g2, g3, g4⟩ := readPipeline_loop F hF H hm rec d hd hrec (m - (p + 1)) (p + 1) 0 F 3 (by omega) (by omega) (by omega) (by omega) (by omega) (Or.inl rfl) (fun h => absurd h (by decide))
    have st : zA (cA u 1 0) m p s d = zA (cA u 1 0) m (p + 1) 3 d := by
      refine zA_go hpm (hK.trans h4) ?_ (by decide) rfl
      unfold znx
      rw [if_neg (by omega), if_neg (by omega), if_neg (by omega), if_neg (by omega), if_pos rfl, if_pos (by omega)]
    rw [st]
    refine ⟨b3, p3, g1, by omega, g3, ?_⟩
    rcases g4 with ⟨g4, g5⟩ | ⟨g4, g5, g6⟩
    · exact Or.inl ⟨g4, g5⟩
    · exact Or.inr ⟨g4, by omega, g6⟩
  · simp only [h4, not_false_iff, if_true, Option.bind_some]
    exact readPipeline_loop F hF H hm rec d hd hrec (m - p) p 0 F s (by omega) hp (by omega) (by omega) (by omega) (Or.inr h4) k6
theorem listEnd_is (F : Nat) {u : ZC} {m : Nat} (H : zG u m) (p : Nat) (hp : p ≤ 100) : cGrammar_isListEnd F (zU u p) = some (if zkt (cA u 1 0) m p = 6 ∨ zkt (cA u 1 0) m p = 11 then 1 else 0) := by
  have e3 : cI (zU u p) 3 0 = (p : Int) := rfl
  have hk := zkt_in H p
  unfold cGrammar_isListEnd
  rw [e3, kindAt_is F H p p hp]
  simp only [Option.bind_some]
  simp (disch := omega) only [zI_lt, zI_le, zI_eq, zI_eq0, zI_lt0, zI_0lt, zI_le0, zI_0le, zI_eq33, zI_eq38, zI_eq40, zI_eq41, zI_eq59, zI_eq60, zI_eq62, zI_eq124]
  by_cases h6 : zkt (cA u 1 0) m p = 6
  · simp [h6]
  · by_cases h11 : zkt (cA u 1 0) m p = 11
    · simp [h11]
    · simp [h6, h11]
theorem readList_loop (F : Nat) (hF : 70 ≤ F) {u : ZC} {m : Nat} (H : zG u m) (hm : 1 ≤ m) (rec : ZC → Int → Option (Int × ZC)) (d : Int) (hd : 0 ≤ d ∧ d ≤ 4) (hrec : zRec u m rec (d + 1)) : ∀ (f p i n : Nat) (s : Int), m - p ≤ f → p ≤ m → i + 1 ≤ p → f < n → zE2 (cA u 1 0) m p s → zkt (cA u 1 0) m p ≠ 3 →
    ∃ (b : Int) (p2 : Nat), cGrammar_readList_17 F rec n (zU u p) d (i : Int) = some (b, zU u p2) ∧ p ≤ p2 ∧ p2 ≤ m ∧ ((b = 0 ∧ zA (cA u 1 0) m p s d = false) ∨ (b = 1 ∧ ∃ s2, zE3 (cA u 1 0) m p2 s2 ∧ zA (cA u 1 0) m p s d = zA (cA u 1 0) m p2 s2 d)) := by
  have hm64 := H.2.1
  intro f
  induction f with
  | zero =>
    intro p i n s hf hp hi hn hs k3
    obtain ⟨n, rfl⟩ : ∃ n', n = n' + 1 := ⟨n - 1, by omega⟩
    have e2 : cI (zU u p) 2 0 = (m : Int) := H.1
    have e3 : cI (zU u p) 3 0 = (p : Int) := rfl
    have hk11 : zkt (cA u 1 0) m p = 11 := by unfold zkt; rw [if_neg (by omega)]
    rw [cGrammar_readList_17, e2, if_neg (by rw [zI_le (by omega) (by omega) (by omega) (by omega)]; omega), e3, kindAt_is F H p p (by omega), hk11]
    simp only [Option.bind_some]
    rw [if_neg (by decide)]
    exact ⟨1, p, rfl, Nat.le_refl _, hp, Or.inr ⟨rfl, s, Or.inr ⟨hs, by omega⟩, rfl⟩⟩
  | succ f ih =>
    intro p i n s hf hp hi hn hs k3
    obtain ⟨n, rfl⟩ : ∃ n', n = n' + 1 := ⟨n - 1, by omega⟩
    have e2 : cI (zU u p) 2 0 = (m : Int) := H.1
    have e3 : cI (zU u p) 3 0 = (p : Int) := rfl
    have hk := zkt_in H p
    rw [cGrammar_readList_17, e2, if_neg (by rw [zI_le (by omega) (by omega) (by omega) (by omega)]; omega), e3, kindAt_is F H p p (by omega)]
    simp only [Option.bind_some, zI_le (a := zkt (cA u 1 0) m p) (b := 2) (by omega) (by omega) (by omega) (by omega), zI_eq0 (a := zkt (cA u 1 0) m p) (by omega) (by omega)]
    by_cases k2 : zkt (cA u 1 0) m p ≤ 2
    · obtain ⟨hpm, hK⟩ := zkt_lt H p (by omega)
      have hs56 := hs.1
      rw [if_pos k2, zU_U u p _ (p + 1) (by omega), listEnd_is F H (p + 1) (by omega)]
      by_cases hend : zkt (cA u 1 0) m p = 0 ∧ (zkt (cA u 1 0) m (p + 1) = 6 ∨ zkt (cA u 1 0) m (p + 1) = 11)
      · simp only [hend.1, hend.2, not_true, if_false, if_true, Option.bind_some, z10, reduceCtorEq]
        refine ⟨1, p + 1, rfl, by omega, by omega, Or.inr ⟨rfl, 1, Or.inl ⟨rfl, hend.2⟩, ?_⟩⟩
        refine zA_go hpm (hK.trans hend.1) ?_ (by decide) rfl
        unfold znx
        rw [if_neg (by omega), if_neg (by omega), if_neg (by omega), if_neg (by omega), if_neg (by omega), if_neg (by omega), if_neg (by omega), if_pos rfl]
      · have hb5 : (if ¬ zkt (cA u 1 0) m p = 0 then some true else Option.bind (some (if zkt (cA u 1 0) m (p + 1) = 6 ∨ zkt (cA u 1 0) m (p + 1) = 11 then (1 : Int) else 0)) (fun (p4 : Int) => if zI p4 = 0 then some true else some false)) = some true := by
          by_cases h0 : zkt (cA u 1 0) m p = 0
          · have : ¬ (zkt (cA u 1 0) m (p + 1) = 6 ∨ zkt (cA u 1 0) m (p + 1) = 11) := fun h => hend ⟨h0, h⟩
            simp only [h0, this, not_true, if_false, Option.bind_some, z00, if_true]
          · simp only [h0, not_false_iff, if_true]
        rw [hb5]
        simp only [Option.bind_some, if_true]
        generalize hs1 : (if zkt (cA u 1 0) m p = 0 then (1 : Int) else 2) = s1
        have st : zA (cA u 1 0) m p s d = zA (cA u 1 0) m (p + 1) s1 d := by
          refine zA_go hpm hK ?_ (by subst hs1; split <;> decide) (by unfold znd; rw [if_neg (by omega), if_neg (by omega)])
          unfold znx
          rw [if_neg (by omega), if_neg (by omega), if_neg (by omega), if_neg (by omega), if_neg (by omega), if_neg (by omega), if_neg (by omega)]
          subst hs1
          split
          · rfl
          · first | rfl | rw [if_neg (by omega)]
        have hs1' : s1 = 1 ∧ zkt (cA u 1 0) m p = 0 ∨ s1 = 2 := by subst hs1; split <;> omega
        obtain ⟨b, p2, c1, c2, c3, c4⟩ := readPipeline_is F hF H hm rec d hd hrec (p + 1) s1 (by omega) (by omega) (fun h => by omega)
        rw [c1, st]
        rcases c4 with ⟨c4, c5⟩ | ⟨c4, c5, s2, c6, c7, c8⟩
        · subst c4
          simp only [zb2_some, z00, not_true, if_false]
          exact ⟨0, p2, rfl, by omega, c3, Or.inl ⟨rfl, c5⟩⟩
        · subst c4
          simp only [zb2_some, z10, not_false_iff, if_true]
          rw [show (i : Int) + 1 = ((i + 1 : Nat) : Int) by omega, c8]
          obtain ⟨b3, p3, g1, g2, g3, g4⟩ := ih p2 (i + 1) n s2 (by omega) c3 (by omega) (by omega) c6 c7
          exact ⟨b3, p3, g1, by omega, g3, g4⟩
    · rw [if_neg k2]
      exact ⟨1, p, rfl, Nat.le_refl _, hp, Or.inr ⟨rfl, s, Or.inr ⟨hs, by omega⟩, rfl⟩⟩
theorem readList_is (F : Nat) (hF : 70 ≤ F) {u : ZC} {m : Nat} (H : zG u m) (hm : 1 ≤ m) : ∀ (D : Nat) (d : Int), 0 ≤ d → 1 ≤ D → d + D = 6 → zRec u m (cGrammar_readList F D) d := by
  have hm64 := H.2.1
  intro D
  induction D with
  | zero => intro d h0 h1 h6; omega
  | succ D ih =>
    intro d h0 h1 h6 p hp
    refine ⟨fun h5 => ?_, fun h4 => ?_⟩
    · rw [cGrammar_readList, if_pos (by rw [zI_lt (by omega) (by omega) (by omega) (by omega)]; omega)]
    · have hrec := ih (d + 1) (by omega) (by omega) (by omega)
      rw [cGrammar_readList, if_neg (by rw [zI_lt (by omega) (by omega) (by omega) (by omega)]; omega)]
      obtain ⟨b, p2, c1, c2, c3, c4⟩ := readPipeline_is F hF H hm (cGrammar_readList F D) d ⟨h0, h4⟩ hrec p 0 hp (by omega) (fun h => absurd h (by decide))
      rw [c1]
      rcases c4 with ⟨c4, c5⟩ | ⟨c4, c5, s2, c6, c7, c8⟩
      · subst c4
        simp only [zb2_some, z00, not_true, if_false]
        exact ⟨0, p2, rfl, c2, c3, Or.inl ⟨rfl, c5⟩⟩
      · subst c4
        simp only [zb2_some, z10, not_false_iff, if_true]
        rw [c8]
        obtain ⟨b3, p3, g1, g2, g3, g4⟩ := readList_loop F hF H hm (cGrammar_readList F D) d ⟨h0, h4⟩ hrec (m - p2) p2 0 F s2 (by omega) c3 (by omega) (by omega) c6 c7
        refine ⟨b3, p3, g1, by omega, g3, ?_⟩
        rcases g4 with ⟨g4, g5⟩ | ⟨g4, g5⟩
        · exact Or.inl ⟨g4, g5⟩
        · exact Or.inr ⟨g4, by omega, g5⟩
/-- the reference's automaton -/
theorem next_is (F : Nat) (r : ZR) (s k d : Int) (hs : 0 ≤ s ∧ s ≤ 9) (hk : 0 ≤ k ∧ k ≤ 10) (hd : -100 ≤ d ∧ d ≤ 100) : r_next F r s (zrk k) d = some (znx s k d) := by
  have hk' : k = 0 ∨ k = 1 ∨ k = 2 ∨ k = 3 ∨ k = 4 ∨ k = 5 ∨ k = 6 ∨ k = 7 ∨ k = 8 ∨ k = 9 ∨ k = 10 := by omega
  have hs' : s = 0 ∨ s = 1 ∨ s = 2 ∨ s = 3 ∨ s = 4 ∨ s = 5 ∨ s = 6 ∨ s = 7 ∨ s = 8 ∨ s = 9 := by omega
  have hb : r_next F r s (zrk k) d = some (znx s k d) ↔ r_next F r s (zrk k) d = some (znx s k d) := Iff.rfl
  unfold r_next r_redirects znx
  simp (disch := omega) only [zI_le0 (a := d), zI_le (a := 4) (b := d)]
  by_cases h1 : d ≤ 0
  · have h2 : ¬ 0 < d := by omega
    have h3 : ¬ 4 ≤ d := by omega
    have h4 : d < 4 := by omega
    simp only [h1, h2, h3, h4, and_true, false_and, if_true]
    clear h1 h2 h3 h4 hd hb
    rcases hk' with rfl | rfl | rfl | rfl | rfl | rfl | rfl | rfl | rfl | rfl | rfl <;> rcases hs' with rfl | rfl | rfl | rfl | rfl | rfl | rfl | rfl | rfl | rfl <;> rfl
  · have h2 : 0 < d := by omega
    by_cases h3 : 4 ≤ d
    · have h4 : ¬ d < 4 := by omega
      simp only [h1, h2, h3, h4, and_false, true_and, if_true, if_false]
      clear h1 h2 h3 h4 hd hb
      rcases hk' with rfl | rfl | rfl | rfl | rfl | rfl | rfl | rfl | rfl | rfl | rfl <;> rcases hs' with rfl | rfl | rfl | rfl | rfl | rfl | rfl | rfl | rfl | rfl <;> rfl
    · have h4 : d < 4 := by omega
      simp only [h1, h2, h3, h4, and_true, true_and, if_true, if_false]
      clear h1 h2 h3 h4 hd hb
      rcases hk' with rfl | rfl | rfl | rfl | rfl | rfl | rfl | rfl | rfl | rfl | rfl <;> rcases hs' with rfl | rfl | rfl | rfl | rfl | rfl | rfl | rfl | rfl | rfl <;> rfl
