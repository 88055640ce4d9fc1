/-! the grammar: simple commands, commands, pipelines, lists -/
/-- what a reader that answered leaves: b the answer, from p to p2, the automaton from (s, d) -/
theorem readSimple_loop (F : Nat) (hF : 70 ≤ F) {u : ZC} {m : Nat} (H : zG u m) (hm : 1 ≤ m) (d : Int) : ∀ (f p i n : Nat) (v s : Int), m - p ≤ f → p ≤ m → i ≤ p → f < n →
    (v = 0 ∧ 0 ≤ s ∧ s < 4 ∧ i = 0 ∧ zkt (cA u 1 0) m p ≠ 5 ∧ (s = 3 ∨ zkt (cA u 1 0) m p ≠ 4) ∧ (s = 1 → zkt (cA u 1 0) m p ≠ 6 ∧ zkt (cA u 1 0) m p ≠ 11) ∨ v = 1 ∧ s = 5) →
    ∃ (b : Int) (p2 : Nat), cGrammar_readSimple_4 F n (zU u p) v (i : Int) = some (b, zU u p2) ∧ p ≤ p2 ∧ p2 ≤ m ∧
      ((b = 0 ∧ zA (cA u 1 0) m p s d = false) ∨
       (b = 1 ∧ (v = 0 → p < p2) ∧ ¬ (7 ≤ zkt (cA u 1 0) m p2 ∧ zkt (cA u 1 0) m p2 ≤ 10) ∧ zA (cA u 1 0) m p s d = zA (cA u 1 0) m p2 5 d)) := by
  have hm64 := H.2.1
  intro f
  induction f with
  | zero =>
    intro p i n v s hf hp hi hn hs
    obtain ⟨n, rfl⟩ : ∃ n', n = n' + 1 := ⟨n - 1, by omega⟩
    have hpm : p = m := by omega
    have hk : zkt (cA u 1 0) m p = 11 := by unfold zkt; rw [if_neg (by omega)]
    have e3 : cI (zU u p) 3 0 = (p : Int) := rfl
    have e2 : cI (zU u p) 2 0 = (m : Int) := H.1
    obtain ⟨b, p2, c1, c2, c3, c4⟩ := readRed_loop F H hm 0 p 0 F (by omega) hp (by omega) (by omega)
    have hp2 : p2 = p := by omega
    subst hp2
    have c1' : cGrammar_readRedirections F (zU u p2) = some (b, zU u p2) := c1
    rw [cGrammar_readSimple_4, e2, c1']
    have hb : b = 1 := by
      rcases c4 with ⟨c4, c5⟩ | ⟨c4, c5, c6⟩
      · have h5 := c5 5 0 (by omega) (by omega)
        rw [hpm, zA_end] at h5
        cases h5
      · exact c4
    rcases hs with ⟨hv, h0, h4, hi0, k5, k4, k6⟩ | ⟨hv, hs5⟩
    · subst hv
      rw [if_neg (by rw [zI_le (by omega) (by omega) (by omega) (by omega)]; omega)]
      simp only [hb, zb2_some, z10, not_false_iff, if_true, e3, kindAt_is F H p2 p2 (by omega), hk, Option.bind_some]
      refine ⟨0, p2, rfl, Nat.le_refl _, hp, Or.inl ⟨rfl, ?_⟩⟩
      rw [hpm, zA_end]
      simp only [decide_eq_false_iff_not]
      intro hh
      have := k6
      omega
    · subst hv
      by_cases him : m ≤ i
      · rw [if_pos (by rw [zI_le (by omega) (by omega) (by omega) (by omega)]; omega), if_pos (Or.inr rfl)]
        exact ⟨1, p2, rfl, Nat.le_refl _, hp, Or.inr ⟨rfl, (fun h => absurd h (by decide)), by omega, by rw [hs5]⟩⟩
      · rw [if_neg (by rw [zI_le (by omega) (by omega) (by omega) (by omega)]; omega)]
        simp only [hb, zb2_some, z10, not_false_iff, if_true, e3, kindAt_is F H p2 p2 (by omega), hk, Option.bind_some]
        exact ⟨1, p2, rfl, Nat.le_refl _, hp, Or.inr ⟨rfl, (fun h => absurd h (by decide)), by omega, by rw [hs5]⟩⟩
  | succ f ih =>
    intro p i n v s hf hp hi hn hs
    obtain ⟨n, rfl⟩ : ∃ n', n = n' + 1 := ⟨n - 1, by omega⟩
    have e2 : cI (zU u p) 2 0 = (m : Int) := H.1
    obtain ⟨b, p2, c1, c2, c3, c4⟩ := readRed_loop F H hm (m - p) p 0 F (by omega) hp (by omega) (by omega)
    have c1' : cGrammar_readRedirections F (zU u p) = some (b, zU u p2) := c1
    have e3 : cI (zU u p2) 3 0 = (p2 : Int) := rfl
    rw [cGrammar_readSimple_4, e2, c1']
    have hs06 : 0 ≤ s ∧ s ≤ 6 := by omega
    by_cases him : m ≤ i
    · have hv1 : v = 1 ∧ s = 5 := by omega
      obtain ⟨hv, hs5⟩ := hv1
      subst hv
      have hpm : p = m := by omega
      have hk : zkt (cA u 1 0) m p = 11 := by unfold zkt; rw [if_neg (by omega)]
      rw [if_pos (by rw [zI_le (by omega) (by omega) (by omega) (by omega)]; omega), if_pos (Or.inr rfl)]
      exact ⟨1, p, rfl, Nat.le_refl _, hp, Or.inr ⟨rfl, (fun h => absurd h (by decide)), by omega, by rw [hs5]⟩⟩
    · rw [if_neg (by rw [zI_le (by omega) (by omega) (by omega) (by omega)]; omega)]
      rcases c4 with ⟨c4, c5⟩ | ⟨c4, c5, c6⟩
      · subst c4
        simp only [zb2_some, z00, not_true, if_false]
        exact ⟨0, p2, rfl, c2, c3, Or.inl ⟨rfl, c5 s d hs06.1 hs06.2⟩⟩
      · subst c4
        have hk2 := zkt_in H p2
        simp only [zb2_some, z10, not_false_iff, if_true, e3, kindAt_is F H p2 p2 (by omega), Option.bind_some, zI_eq (a := zkt (cA u 1 0) m p2) (b := 10) (by omega) (by omega) (by omega) (by omega)]
        have c7 := c6 s d hs06.1 hs06.2
        generalize hs1 : (if p2 = p then s else zs4 s) = s1 at c7
        have hs1' : 0 ≤ s1 ∧ s1 ≤ 5 ∧ (s = 5 → s1 = 5) ∧ (s < 4 → s1 ≤ 4) := by
          subst hs1
          unfold zs4
          split
          · omega
          · split <;> omega
        by_cases hw : zkt (cA u 1 0) m p2 = 10
        · obtain ⟨hpm2, hK2⟩ := zkt_lt H p2 (by omega)
          rw [if_pos hw, zU_U u p2 _ (p2 + 1) (by omega), show (i : Int) + 1 = ((i + 1 : Nat) : Int) by omega]
          obtain ⟨b3, p3, g1, g2, g3, g4⟩ := ih (p2 + 1) (i + 1) n 1 5 (by omega) (by omega) (by omega) (by omega) (Or.inr ⟨rfl, rfl⟩)
          have st : zA (cA u 1 0) m p2 s1 d = zA (cA u 1 0) m (p2 + 1) 5 d := by
            refine zA_go hpm2 (hK2.trans hw) ?_ (by decide) rfl
            unfold znx
            rw [if_neg (by omega), if_neg (by omega), if_pos rfl, if_neg (by omega)]
          refine ⟨b3, p3, g1, by omega, g3, ?_⟩
          rw [c7, st]
          rcases g4 with ⟨g4, g5⟩ | ⟨g4, g5, g6, g7⟩
          · exact Or.inl ⟨g4, g5⟩
          · exact Or.inr ⟨g4, fun _ => by omega, g6, g7⟩
        · rw [if_neg hw]
          rcases hs with ⟨hv, h0, h4, hi0, k5, k4, k6⟩ | ⟨hv, hs5⟩
          · subst hv
            rw [if_pos (Or.inl rfl)]
            refine ⟨0, p2, rfl, c2, c3, Or.inl ⟨rfl, ?_⟩⟩
            rw [c7]
            by_cases hpm2 : p2 < m
            · have hkk : zkt (cA u 1 0) m p2 = cA u 1 0 p2 := by unfold zkt; rw [if_pos hpm2]
              refine zA_no hpm2 ?_
              rw [hkk] at c5 hw
              by_cases hpp : p2 = p
              · rw [if_pos hpp] at hs1
                subst hs1
                rw [← hpp, hkk] at k5 k4 k6
                unfold znx
                rw [if_neg (by omega), if_neg (by omega), if_neg hw, if_neg k5]
                by_cases hk4 : cA u 1 0 p2 = 4
                · rw [if_pos hk4, if_neg (by omega)]; decide
                · rw [if_neg hk4]
                  by_cases hk6 : cA u 1 0 p2 = 6
                  · rw [if_pos hk6, if_neg (by omega)]; decide
                  · rw [if_neg hk6, if_pos (by omega)]; decide
              · rw [if_neg hpp] at hs1
                have : s1 = 4 := by subst hs1; unfold zs4; rw [if_pos h4]
                subst this
                unfold znx
                rw [if_neg (by omega), if_neg (by omega), if_neg hw]
                by_cases hk5 : cA u 1 0 p2 = 5
                · rw [if_pos hk5, if_neg (by omega)]; decide
                · rw [if_neg hk5]
                  by_cases hk4 : cA u 1 0 p2 = 4
                  · rw [if_pos hk4, if_neg (by omega)]; decide
                  · rw [if_neg hk4]
                    by_cases hk6 : cA u 1 0 p2 = 6
                    · rw [if_pos hk6, if_neg (by omega)]; decide
                    · rw [if_neg hk6, if_pos (by omega)]; decide
            · have hpe : p2 = m := by omega
              have hk11 : zkt (cA u 1 0) m p2 = 11 := by unfold zkt; rw [if_neg hpm2]
              rw [hpe, zA_end]
              simp only [decide_eq_false_iff_not]
              intro hh
              by_cases hpp : p2 = p
              · rw [if_pos hpp] at hs1
                subst hs1
                rw [← hpp, hk11] at k6
                omega
              · rw [if_neg hpp] at hs1
                have : s1 = 4 := by subst hs1; unfold zs4; rw [if_pos h4]
                omega
          · subst hv
            rw [if_pos (Or.inr rfl)]
            refine ⟨1, p2, rfl, c2, c3, Or.inr ⟨rfl, (fun h => absurd h (by decide)), by omega, ?_⟩⟩
            rw [c7, hs1'.2.2.1 hs5]
/-- what may stand at p2 behind a command that ended in state s2 -/
def zE2 (K : Nat → Int) (m p2 : Nat) (s2 : Int) : Prop := (s2 = 5 ∨ s2 = 6) ∧ ¬ (7 ≤ zkt K m p2 ∧ zkt K m p2 ≤ 9) ∧ (s2 = 5 → zkt K m p2 ≠ 10)
/-- behind a list -/
def zE3 (K : Nat → Int) (m p2 : Nat) (s2 : Int) : Prop := (s2 = 1 ∧ (zkt K m p2 = 6 ∨ zkt K m p2 = 11)) ∨ (zE2 K m p2 s2 ∧ ¬ zkt K m p2 ≤ 3)
theorem zE3_no {u : ZC} {m p2 : Nat} (H : zG u m) (hp : p2 ≤ m) {s2 d : Int} (h : zE3 (cA u 1 0) m p2 s2) (h6 : zkt (cA u 1 0) m p2 ≠ 6 ∨ d ≤ 0) (h11 : zkt (cA u 1 0) m p2 ≠ 11 ∨ d ≠ 0) : zA (cA u 1 0) m p2 s2 d = false := by
  by_cases hpm : p2 < m
  · have hkk : zkt (cA u 1 0) m p2 = cA u 1 0 p2 := by unfold zkt; rw [if_pos hpm]
    have hK := H.2.2 p2 hpm
    refine zA_no hpm ?_
    unfold zE3 zE2 at h
    rw [hkk] at h h6 h11
    unfold znx
    rw [if_neg (by omega)]
    rcases h with ⟨h1, h2⟩ | ⟨⟨h1, h2, h3⟩, h4⟩
    · rw [if_neg (by omega), if_neg (by omega), if_neg (by omega), if_neg (by omega), if_pos (by omega), if_neg (by omega)]
      decide
    · rw [if_neg (by omega)]
      by_cases k10 : cA u 1 0 p2 = 10
      · rw [if_pos k10, if_pos (by omega)]; decide
      · rw [if_neg k10]
        by_cases k5 : cA u 1 0 p2 = 5
        · rw [if_pos k5, if_neg (by omega)]; decide
        · rw [if_neg k5]
          by_cases k4 : cA u 1 0 p2 = 4
          · rw [if_pos k4, if_neg (by omega)]; decide
          · rw [if_neg k4, if_pos (by omega), if_neg (by omega)]; decide
  · have hpe : p2 = m := by omega
    have hk11 : zkt (cA u 1 0) m p2 = 11 := by unfold zkt; rw [if_neg hpm]
    rw [hpe, zA_end]
    simp only [decide_eq_false_iff_not]
    intro hh
    omega
/-- the reader of a list one group deeper -/
def zRec (u : ZC) (m : Nat) (rec : ZC → Int → Option (Int × ZC)) (d : Int) : Prop := ∀ p : Nat, p ≤ m →
  (d = 5 → rec (zU u p) d = some (0, zU u p)) ∧
  (d ≤ 4 → ∃ (b : Int) (p2 : Nat), rec (zU u p) d = some (b, zU u p2) ∧ p ≤ p2 ∧ p2 ≤ m ∧ ((b = 0 ∧ zA (cA u 1 0) m p 0 d = false) ∨ (b = 1 ∧ p < p2 ∧ ∃ s2, zE3 (cA u 1 0) m p2 s2 ∧ zA (cA u 1 0) m p 0 d = zA (cA u 1 0) m p2 s2 d)))
theorem readCommand_is (F : Nat) (hF : 70 ≤ F) {u : ZC} {m : Nat} (H : zG u m) (hm : 1 ≤ m) (rec : ZC → Int → Option (Int × ZC)) (d : Int) (hd : 0 ≤ d ∧ d ≤ 4) (hrec : zRec u m rec (d + 1)) (p : Nat) (s : Int) (hp : p ≤ m) (hs : 0 ≤ s ∧ s < 4) (k4 : s = 3 ∨ zkt (cA u 1 0) m p ≠ 4) (k6 : s = 1 → zkt (cA u 1 0) m p ≠ 6 ∧ zkt (cA u 1 0) m p ≠ 11) :
    ∃ (b : Int) (p2 : Nat), cGrammar_readCommand F rec (zU u p) d = some (b, zU u p2) ∧ p ≤ p2 ∧ p2 ≤ m ∧ ((b = 0 ∧ zA (cA u 1 0) m p s d = false) ∨ (b = 1 ∧ p < p2 ∧ ∃ s2, zE2 (cA u 1 0) m p2 s2 ∧ zA (cA u 1 0) m p s d = zA (cA u 1 0) m p2 s2 d)) := by
  have hm64 := H.2.1
  have e3 : cI (zU u p) 3 0 = (p : Int) := rfl
  have hk := zkt_in H p
  unfold cGrammar_readCommand
  rw [e3, kindAt_is F H p p (by omega)]
  simp only [Option.bind_some, zI_eq (a := zkt (cA u 1 0) m p) (b := 5) (by omega) (by omega) (by omega) (by omega)]
  by_cases h5 : zkt (cA u 1 0) m p = 5
  · obtain ⟨hpm, hK⟩ := zkt_lt H p (by omega)
    rw [if_pos h5, zU_U u p _ (p + 1) (by omega)]
    by_cases hd4 : d = 4
    · have := (hrec (p + 1) (by omega)).1 (by omega)
      rw [this]
      simp only [zb2_some, z00, if_true, Option.bind_some]
      refine ⟨0, p + 1, rfl, by omega, by omega, Or.inl ⟨rfl, zA_no hpm ?_⟩⟩
      rw [hK, h5]
      unfold znx
      rw [if_neg (by omega), if_neg (by omega), if_neg (by omega), if_pos rfl, if_neg (by omega)]
      decide
    · obtain ⟨b, p2, c1, c2, c3, c4⟩ := (hrec (p + 1) (by omega)).2 (by omega)
      have st : zA (cA u 1 0) m p s d = zA (cA u 1 0) m (p + 1) 0 (d + 1) := by
        refine zA_go hpm (hK.trans h5) ?_ (Int.le_refl _) rfl
        unfold znx
        rw [if_neg (by omega), if_neg (by omega), if_neg (by omega), if_pos rfl, if_pos (by omega)]
      rw [c1, st]
      have e3' : cI (zU u p2) 3 0 = (p2 : Int) := rfl
      have hk2 := zkt_in H p2
      rcases c4 with ⟨c4, c5⟩ | ⟨c4, c4b, s2, c5, c6⟩
      · subst c4
        simp only [zb2_some, z00, if_true, Option.bind_some]
        exact ⟨0, p2, rfl, by omega, c3, Or.inl ⟨rfl, c5⟩⟩
      · subst c4
        rw [c6]
        simp only [zb2_some, z10, if_false, e3', kindAt_is F H p2 p2 (by omega), Option.bind_some, zI_eq (a := zkt (cA u 1 0) m p2) (b := 6) (by omega) (by omega) (by omega) (by omega)]
        by_cases k6' : zkt (cA u 1 0) m p2 = 6
        · obtain ⟨hpm2, hK2⟩ := zkt_lt H p2 (by omega)
          simp only [k6', if_true, reduceCtorEq, if_false, Option.bind_some]
          rw [zU_U u p2 _ (p2 + 1) (by omega)]
          obtain ⟨b3, p3, g1, g2, g3, g4⟩ := readRed_loop F H hm (m - (p2 + 1)) (p2 + 1) 0 F (by omega) (by omega) (by omega) (by omega)
          have g1' : cGrammar_readRedirections F (zU u (p2 + 1)) = some (b3, zU u p3) := g1
          have st2 : zA (cA u 1 0) m p2 s2 (d + 1) = zA (cA u 1 0) m (p2 + 1) 6 d := by
            refine zA_go hpm2 (hK2.trans k6') ?_ (by decide) (by unfold znd; rw [if_neg (by decide), if_pos rfl]; omega)
            unfold zE3 zE2 at c5
            unfold znx
            rw [if_neg (by omega), if_neg (by omega), if_neg (by omega), if_neg (by omega), if_neg (by omega), if_pos rfl, if_pos (by omega)]
          rw [g1', st2]
          simp only [zb2_some]
          rcases g4 with ⟨g4, g5⟩ | ⟨g4, g5, g6⟩
          · subst g4
            rw [if_pos (Or.inl rfl)]
            exact ⟨0, p3, rfl, by omega, g3, Or.inl ⟨rfl, g5 6 d (by omega) (by omega)⟩⟩
          · subst g4
            rw [if_pos (Or.inr rfl), g6 6 d (by omega) (by omega)]
            refine ⟨1, p3, rfl, by omega, g3, Or.inr ⟨rfl, by omega, 6, ⟨Or.inr rfl, g5, fun h => absurd h (by decide)⟩, ?_⟩⟩
            congr 1
            split <;> rfl
        · simp only [k6', if_false, Option.bind_some, if_true]
          refine ⟨0, p2, rfl, by omega, c3, Or.inl ⟨rfl, zE3_no H c3 c5 (Or.inl k6') (Or.inr (by omega))⟩⟩
  · rw [if_neg h5]
    obtain ⟨b, p2, c1, c2, c3, c4⟩ := readSimple_loop F hF H hm d (m - p) p 0 F 0 s (by omega) hp (by omega) (by omega) (Or.inl ⟨rfl, hs.1, hs.2, rfl, h5, k4, k6⟩)
    have c1' : cGrammar_readSimple F (zU u p) = some (b, zU u p2) := c1
    rw [c1']
    simp only [zb2_some]
    rcases c4 with ⟨c4, c5⟩ | ⟨c4, c5, c6, c7⟩
    · subst c4
      rw [if_pos (Or.inl rfl)]
      exact ⟨0, p2, rfl, c2, c3, Or.inl ⟨rfl, c5⟩⟩
    · subst c4
      rw [if_pos (Or.inr rfl)]
      exact ⟨1, p2, rfl, c2, c3, Or.inr ⟨rfl, c5 rfl, 5, ⟨Or.inl rfl, by omega, fun _ => by omega⟩, c7⟩⟩
