/-! the grammar: the class's descent against the reference's automaton -/
def znx (s k d : Int) : Int :=
  if 7 ≤ s then (if k = 10 then s - 3 else -1)
  else if k = 7 ∨ k = 8 ∨ k = 9 then (if s < 4 then 7 else s + 3)
  else if k = 10 then (if s = 6 then -1 else 5)
  else if k = 5 then (if s < 4 ∧ d < 4 then 0 else -1)
  else if k = 4 then (if s < 3 then 3 else -1)
  else if k = 6 then (if 0 < d ∧ (s = 1 ∨ 5 ≤ s) then 6 else -1)
  else if s < 5 then -1 else if k = 0 then 1 else if k = 3 then 3 else 2
def znd (k d : Int) : Int := if k = 5 then d + 1 else if k = 6 then d - 1 else d
def zac (K : Nat → Int) : Nat → Nat → Int → Int → Bool
  | 0, _, s, d => decide (d = 0 ∧ (s = 1 ∨ s = 5 ∨ s = 6))
  | f + 1, p, s, d => if znx s (K p) d < 0 then false else zac K f (p + 1) (znx s (K p) d) (znd (K p) d)
def zA (K : Nat → Int) (m p : Nat) (s d : Int) : Bool := zac K (m - p) p s d
theorem zA_step {K : Nat → Int} {m p : Nat} (h : p < m) (s d : Int) : zA K m p s d = if znx s (K p) d < 0 then false else zA K m (p + 1) (znx s (K p) d) (znd (K p) d) := by
  unfold zA
  obtain ⟨j, hj⟩ : ∃ j, m - p = j + 1 := ⟨m - p - 1, by omega⟩
  rw [hj, show m - (p + 1) = j by omega, zac]
theorem zA_no {K : Nat → Int} {m p : Nat} (h : p < m) {s d : Int} (hn : znx s (K p) d < 0) : zA K m p s d = false := by
  rw [zA_step h, if_pos hn]
theorem zA_go {K : Nat → Int} {m p : Nat} (h : p < m) {s d k s2 d2 : Int} (hk : K p = k) (hn : znx s k d = s2) (h0 : 0 ≤ s2) (hd : znd k d = d2) : zA K m p s d = zA K m (p + 1) s2 d2 := by
  rw [zA_step h, hk, hn, hd, if_neg (by omega)]
theorem zA_end {K : Nat → Int} {m : Nat} (s d : Int) : zA K m m s d = decide (d = 0 ∧ (s = 1 ∨ s = 5 ∨ s = 6)) := by
  unfold zA
  rw [Nat.sub_self, zac]
/-- the kind at a place, none behind the last -/
def zkt (K : Nat → Int) (m p : Nat) : Int := if p < m then K p else 11
def zG (u : ZC) (m : Nat) : Prop := cI u 2 0 = (m : Int) ∧ m ≤ 64 ∧ ∀ j : Nat, j < m → 0 ≤ cA u 1 0 j ∧ cA u 1 0 j ≤ 10
def zU (u : ZC) (p : Nat) : ZC := sI u 3 0 (p : Int)
theorem zU_U (u : ZC) (p : Nat) (x : Int) (q : Nat) (h : x = (q : Int)) : sI (zU u p) 3 0 x = zU u q := by
  subst h
  refine Prod.ext ?_ rfl
  funext f o
  show (if f = 3 ∧ o = 0 then (q : Int) else if f = 3 ∧ o = 0 then (p : Int) else u.1 f o) = if f = 3 ∧ o = 0 then (q : Int) else u.1 f o
  by_cases h : f = 3 ∧ o = 0
  · rw [if_pos h, if_pos h]
  · rw [if_neg h, if_neg h, if_neg h]
theorem zkt_in {u : ZC} {m : Nat} (H : zG u m) (p : Nat) : 0 ≤ zkt (cA u 1 0) m p ∧ zkt (cA u 1 0) m p ≤ 11 := by
  unfold zkt
  by_cases h : p < m
  · rw [if_pos h]
    have := H.2.2 p h
    omega
  · rw [if_neg h]
    omega
theorem zkt_lt {u : ZC} {m : Nat} (H : zG u m) (p : Nat) (h : zkt (cA u 1 0) m p ≠ 11) : p < m ∧ cA u 1 0 p = zkt (cA u 1 0) m p := by
  unfold zkt at h ⊢
  by_cases hp : p < m
  · rw [if_pos hp]
    exact ⟨hp, rfl⟩
  · rw [if_neg hp] at h
    exact absurd rfl h
theorem zkt_11 {u : ZC} {m : Nat} (H : zG u m) (p : Nat) (hp : p ≤ m) (h : zkt (cA u 1 0) m p = 11) : p = m := by
  unfold zkt at h
  by_cases hp : p < m
  · rw [if_pos hp] at h
    have := H.2.2 p hp
    omega
  · omega
theorem kindAt_is (F : Nat) {u : ZC} {m : Nat} (H : zG u m) (q p : Nat) (hp : p ≤ 100) : cTokens_kindAt F (zU u q) (p : Int) = some (zkt (cA u 1 0) m p) := by
  obtain ⟨h1, h2, h3⟩ := H
  unfold cTokens_kindAt zkt
  have e : cI (zU u q) 2 0 = (m : Int) := h1
  simp only [e]
  simp (disch := omega) only [zI_lt, zI_le, zI_eq, zI_eq0, zI_lt0, zI_0lt, zI_le0, zI_0le, zI_eq33, zI_eq38, zI_eq40, zI_eq41, zI_eq59, zI_eq60, zI_eq62, zI_eq124]
  rw [if_neg (by omega)]
  by_cases h : p < m
  · rw [if_neg (by omega), if_pos h]
    simp only [Option.bind_some, reduceCtorEq, if_false]
    rw [if_pos (show zix (p : Int) 64 from ⟨by omega, by omega, by omega⟩)]
    rfl
  · rw [if_pos (by omega), if_neg h]
    rfl
theorem isRed_is (F : Nat) {u : ZC} {m : Nat} (H : zG u m) (q p : Nat) (hp : p ≤ 100) : cTokens_isRedirection F (zU u q) (p : Int) = some (if 7 ≤ zkt (cA u 1 0) m p ∧ zkt (cA u 1 0) m p ≤ 9 then 1 else 0) := by
  obtain ⟨h1, h2, h3⟩ := H
  unfold cTokens_isRedirection zkt
  have e : cI (zU u q) 2 0 = (m : Int) := h1
  have e2 : cA (zU u q) 1 0 = cA u 1 0 := rfl
  simp only [e, e2, Int.toNat_natCast]
  by_cases h : p < m
  · have h4 := h3 p h
    simp (disch := omega) only [zI_lt, zI_le, zI_eq, zI_eq0, zI_lt0, zI_0lt, zI_le0, zI_0le, zI_eq33, zI_eq38, zI_eq40, zI_eq41, zI_eq59, zI_eq60, zI_eq62, zI_eq124]
    rw [if_neg (by omega), if_neg (by omega), if_pos h, if_pos (show zix (p : Int) 64 from ⟨by omega, by omega, by omega⟩)]
    by_cases h5 : cA u 1 0 p < 7
    · rw [if_pos h5, if_neg (by omega)]
      rfl
    · rw [if_neg h5]
      by_cases h6 : 9 < cA u 1 0 p
      · rw [if_pos h6, if_neg (by omega)]
        rfl
      · rw [if_neg h6, if_pos (by omega)]
        rfl
  · rw [if_neg (by rw [zI_lt0 (by omega) (by omega)]; omega), if_pos (by rw [zI_le (by omega) (by omega) (by omega) (by omega)]; omega), if_neg h]
    rfl
/-- after one redirection and more -/
def zs4 (s : Int) : Int := if s < 4 then 4 else s
theorem readRed_loop (F : Nat) {u : ZC} {m : Nat} (H : zG u m) (hm : 1 ≤ m) : ∀ (f p i n : Nat), m - p ≤ f → p ≤ m → 2 * i ≤ p → f < n →
    ∃ (b : Int) (p2 : Nat), cGrammar_readRedirections_2 F n (zU u p) (i : Int) = some (b, zU u p2) ∧ p ≤ p2 ∧ p2 ≤ m ∧
      ((b = 0 ∧ ∀ s d : Int, 0 ≤ s → s ≤ 6 → zA (cA u 1 0) m p s d = false) ∨
       (b = 1 ∧ ¬ (7 ≤ zkt (cA u 1 0) m p2 ∧ zkt (cA u 1 0) m p2 ≤ 9) ∧ ∀ s d : Int, 0 ≤ s → s ≤ 6 → zA (cA u 1 0) m p s d = zA (cA u 1 0) m p2 (if p2 = p then s else zs4 s) d)) := by
  have hm64 := H.2.1
  intro f
  induction f with
  | zero =>
    intro p i n hf hp hi hn
    obtain ⟨n, rfl⟩ : ∃ n', n = n' + 1 := ⟨n - 1, by omega⟩
    have hpm : ¬ p < m := by omega
    refine ⟨1, p, ?_, Nat.le_refl _, hp, Or.inr ⟨rfl, by unfold zkt; rw [if_neg hpm]; omega, fun s d _ _ => by rw [if_pos rfl]⟩⟩
    rw [cGrammar_readRedirections_2]
    have e3 : cI (zU u p) 3 0 = (p : Int) := rfl
    have e2 : cI (zU u p) 2 0 = (m : Int) := H.1
    rw [e3, e2, isRed_is F H p p (by omega)]
    rw [if_neg (show ¬ zI (m : Int) ≤ zI (i : Int) by rw [zI_le (by omega) (by omega) (by omega) (by omega)]; omega), if_neg (show ¬ (7 ≤ zkt (cA u 1 0) m p ∧ zkt (cA u 1 0) m p ≤ 9) by unfold zkt; rw [if_neg hpm]; omega)]
    rfl
  | succ f ih =>
    intro p i n hf hp hi hn
    obtain ⟨n, rfl⟩ : ∃ n', n = n' + 1 := ⟨n - 1, by omega⟩
    have e3 : cI (zU u p) 3 0 = (p : Int) := rfl
    have e2 : cI (zU u p) 2 0 = (m : Int) := H.1
    rw [cGrammar_readRedirections_2, e3, e2, isRed_is F H p p (by omega), show (p : Int) + 1 = ((p + 1 : Nat) : Int) by omega, kindAt_is F H p (p + 1) (by omega)]
    rw [if_neg (show ¬ zI (m : Int) ≤ zI (i : Int) by rw [zI_le (by omega) (by omega) (by omega) (by omega)]; omega)]
    by_cases hr : 7 ≤ zkt (cA u 1 0) m p ∧ zkt (cA u 1 0) m p ≤ 9
    · obtain ⟨hpm, hK⟩ := zkt_lt H p (by omega)
      have hk1 := zkt_in H (p + 1)
      simp only [if_pos hr, Option.bind_some, z10, if_false, reduceCtorEq, zI_eq (a := zkt (cA u 1 0) m (p + 1)) (b := 10) (by omega) (by omega) (by omega) (by omega)]
      have st : ∀ s d : Int, 0 ≤ s → s ≤ 6 → zA (cA u 1 0) m p s d = zA (cA u 1 0) m (p + 1) (if s < 4 then 7 else s + 3) d := by
        intro s d h0 h6
        refine zA_go hpm rfl ?_ ?_ ?_
        · unfold znx
          rw [if_neg (by omega), if_pos (by omega)]
        · split <;> omega
        · unfold znd
          rw [if_neg (by omega), if_neg (by omega)]
      by_cases hw : zkt (cA u 1 0) m (p + 1) = 10
      · obtain ⟨hpm1, hK1⟩ := zkt_lt H (p + 1) (by omega)
        rw [if_pos hw, zU_U u p _ (p + 2) (by omega), show (i : Int) + 1 = ((i + 1 : Nat) : Int) by omega]
        obtain ⟨b, p2, c1, c2, c3, c4⟩ := ih (p + 2) (i + 1) n (by omega) (by omega) (by omega) (by omega)
        have st2 : ∀ s d : Int, 0 ≤ s → s ≤ 6 → zA (cA u 1 0) m p s d = zA (cA u 1 0) m (p + 2) (zs4 s) d := by
          intro s d h0 h6
          rw [st s d h0 h6]
          refine zA_go hpm1 (hK1.trans hw) ?_ ?_ ?_
          · unfold znx zs4
            rw [if_pos (by split <;> omega), if_pos rfl]
            split <;> omega
          · unfold zs4; split <;> omega
          · rfl
        refine ⟨b, p2, c1, by omega, c3, ?_⟩
        rcases c4 with ⟨c4, c5⟩ | ⟨c4, c5, c6⟩
        · refine Or.inl ⟨c4, fun s d h0 h6 => ?_⟩
          rw [st2 s d h0 h6]
          exact c5 _ d (by unfold zs4; split <;> omega) (by unfold zs4; split <;> omega)
        · refine Or.inr ⟨c4, c5, fun s d h0 h6 => ?_⟩
          rw [st2 s d h0 h6, c6 _ d (by unfold zs4; split <;> omega) (by unfold zs4; split <;> omega), if_neg (show ¬ p2 = p by omega)]
          congr 1
          split
          · rfl
          · unfold zs4; split <;> (try split) <;> omega
      · rw [if_neg hw]
        refine ⟨0, p, rfl, Nat.le_refl _, hp, Or.inl ⟨rfl, fun s d h0 h6 => ?_⟩⟩
        rw [st s d h0 h6]
        by_cases hp1 : p + 1 < m
        · refine zA_no hp1 ?_
          have hw2 : ¬ cA u 1 0 (p + 1) = 10 := by
            unfold zkt at hw
            rw [if_pos hp1] at hw
            exact hw
          unfold znx
          rw [if_pos (by split <;> omega), if_neg hw2]
          decide
        · have : p + 1 = m := by omega
          rw [this, zA_end]
          simp only [decide_eq_false_iff_not]
          intro hh
          split at hh <;> omega
    · simp only [if_neg hr, Option.bind_some, z00, if_true]
      exact ⟨1, p, rfl, Nat.le_refl _, hp, Or.inr ⟨rfl, hr, fun s d _ _ => by rw [if_pos rfl]⟩⟩
