/-! what the automaton tells of a line -/
theorem zA_in {K : Nat → Int} {m p : Nat} {s d : Int} (hp : p < m) (h : zA K m p s d = true) : 0 ≤ znx s (K p) d ∧ zA K m (p + 1) (znx s (K p) d) (znd (K p) d) = true := by
  rw [zA_step hp] at h
  by_cases hn : znx s (K p) d < 0
  · rw [if_pos hn] at h; cases h
  · rw [if_neg hn] at h
    exact ⟨by omega, h⟩
theorem zA_at {K : Nat → Int} {m : Nat} {s d : Int} (h : zA K m m s d = true) : d = 0 ∧ (s = 1 ∨ s = 5 ∨ s = 6) := by
  rw [zA_end] at h
  exact of_decide_eq_true h
/-- where a command may begin -/
theorem st_cmd {K : Nat → Int} {m p : Nat} {s d : Int} (hp : p ≤ m) (hK : ∀ j, j < m → 0 ≤ K j ∧ K j ≤ 10) (h : zA K m p s d = true) (hs : 0 ≤ s ∧ s ≤ 3) (h1 : s ≠ 1) : p < m ∧ (K p = 4 ∧ s ≠ 3 ∨ K p = 5 ∨ (7 ≤ K p ∧ K p ≤ 10)) := by
  by_cases hpm : p = m
  · rw [hpm] at h
    have := zA_at h
    omega
  · have hk := hK p (by omega)
    obtain ⟨g1, -⟩ := zA_in (by omega) h
    refine ⟨by omega, ?_⟩
    unfold znx at g1
    rw [if_neg (by omega)] at g1
    by_cases k7 : K p = 7 ∨ K p = 8 ∨ K p = 9
    · omega
    · rw [if_neg k7] at g1
      by_cases k10 : K p = 10
      · omega
      · rw [if_neg k10] at g1
        by_cases k5 : K p = 5
        · omega
        · rw [if_neg k5] at g1
          by_cases k4 : K p = 4
          · rw [if_pos k4] at g1
            by_cases hs3 : s < 3
            · omega
            · rw [if_neg hs3] at g1; omega
          · rw [if_neg k4] at g1
            by_cases k6 : K p = 6
            · rw [if_pos k6, if_neg (by omega)] at g1; omega
            · rw [if_neg k6, if_pos (by omega)] at g1; omega
/-- words and redirections up to e, each redirection with its word -/
def zWR (K : Nat → Int) (i e : Nat) : Prop := ∀ j, i ≤ j → j < e → (7 ≤ K j ∧ K j ≤ 10) ∧ (K j ≠ 10 → j + 1 < e ∧ K (j + 1) = 10)
/-- a simple command, from any of its states on -/
theorem st_simple {K : Nat → Int} {m : Nat} (hK : ∀ j, j < m → 0 ≤ K j ∧ K j ≤ 10) (d : Int) : ∀ (f i : Nat) (s : Int), m - i = f → i ≤ m → zA K m i s d = true → ((0 ≤ s ∧ s < 4 ∧ i < m ∧ 7 ≤ K i ∧ K i ≤ 10) ∨ s = 4 ∨ s = 5 ∨ s = 7 ∨ s = 8) →
    ∃ e, i ≤ e ∧ e ≤ m ∧ (e = m ∨ qP (K e) = true) ∧ zA K m e 5 d = true ∧ (∀ j, i ≤ j → j < e → (7 ≤ K j ∧ K j ≤ 10) ∧ (K j ≠ 10 → j + 1 < e ∧ K (j + 1) = 10)) ∧ ((s = 7 ∨ s = 8) → i < e ∧ K i = 10) ∧ (s = 5 ∨ s = 8 ∨ ∃ j, i ≤ j ∧ j < e ∧ K j = 10 ∧ (j = i → s ≠ 7) ∧ (i < j → K (j - 1) = 10)) := by
  intro f
  induction f with
  | zero =>
    intro i s hf hi hA hs
    have : i = m := by omega
    subst this
    have := zA_at hA
    have hs5 : s = 5 := by omega
    subst hs5
    exact ⟨i, Nat.le_refl _, Nat.le_refl _, Or.inl rfl, hA, fun j h1 h2 => by omega, fun h => by omega, Or.inl rfl⟩
  | succ f ih =>
    intro i s hf hi hA hs
    have hk := hK i (by omega)
    obtain ⟨g1, g2⟩ := zA_in (by omega) hA
    by_cases hred : K i = 7 ∨ K i = 8 ∨ K i = 9
    · -- a redirection
      have hs7 : ¬ 7 ≤ s := by
        intro h7
        unfold znx at g1
        rw [if_pos h7, if_neg (by omega)] at g1
        omega
      have hx : znx s (K i) d = if s < 4 then 7 else s + 3 := by
        unfold znx
        rw [if_neg hs7, if_pos hred]
      have hd : znd (K i) d = d := by unfold znd; rw [if_neg (by omega), if_neg (by omega)]
      rw [hx, hd] at g2
      obtain ⟨e, e1, e2, e3, e4, e5, e6, e7⟩ := ih (i + 1) _ (by omega) (by omega) g2 (by split <;> omega)
      have h78 : (if s < 4 then (7 : Int) else s + 3) = 7 ∨ (if s < 4 then (7 : Int) else s + 3) = 8 := by clear e7; split <;> omega
      obtain ⟨e8, e9⟩ := e6 h78
      refine ⟨e, by clear e7; omega, e2, e3, e4, fun j h1 h2 => ?_, fun h => by clear e7; omega, ?_⟩
      · by_cases hj : j = i
        · subst hj
          exact ⟨by clear e7; omega, fun _ => ⟨by clear e7; omega, e9⟩⟩
        · exact e5 j (by clear e7; omega) h2
      · by_cases hs5 : s = 5
        · exact Or.inl hs5
        · have h7' : (if s < 4 then (7 : Int) else s + 3) = 7 := by clear e7; split <;> omega
          rw [h7'] at e7
          rcases e7 with e7 | e7 | ⟨j, j1, j2, j3, j4, j5⟩
          · omega
          · omega
          · refine Or.inr (Or.inr ⟨j, by omega, j2, j3, fun h => by omega, fun h => ?_⟩)
            by_cases hji : j = i + 1
            · exact absurd rfl (j4 hji)
            · exact j5 (by omega)
    · by_cases k10 : K i = 10
      · -- a word
        have hd : znd (K i) d = d := by unfold znd; rw [if_neg (by omega), if_neg (by omega)]
        have hx : znx s (K i) d = if 7 ≤ s then s - 3 else 5 := by
          unfold znx
          by_cases h7 : 7 ≤ s
          · rw [if_pos h7, if_pos k10, if_pos h7]
          · rw [if_neg h7, if_neg hred, if_pos k10, if_neg (by omega), if_neg h7]
        rw [hx, hd] at g2
        obtain ⟨e, e1, e2, e3, e4, e5, e6, e7⟩ := ih (i + 1) _ (by omega) (by omega) g2 (by split <;> omega)
        refine ⟨e, by clear e7; omega, e2, e3, e4, fun j h1 h2 => ?_, fun h => ⟨by clear e7; omega, k10⟩, ?_⟩
        · by_cases hj : j = i
          · subst hj
            exact ⟨by clear e7; omega, fun h => absurd k10 h⟩
          · exact e5 j (by clear e7; omega) h2
        · by_cases h7 : s = 7
          · subst h7
            rcases e7 with e7 | e7 | ⟨j, j1, j2, j3, j4, j5⟩
            · rw [if_pos (by omega)] at e7; omega
            · rw [if_pos (by omega)] at e7; omega
            · refine Or.inr (Or.inr ⟨j, by omega, j2, j3, fun h => by omega, fun h => ?_⟩)
              by_cases hji : j = i + 1
              · rw [hji, Nat.add_sub_cancel]; exact k10
              · exact j5 (by omega)
          · by_cases h8 : s = 8
            · exact Or.inr (Or.inl h8)
            · exact Or.inr (Or.inr ⟨i, Nat.le_refl _, by omega, k10, fun _ => h7, fun h => by omega⟩)
      · -- the end
        have hs5 : s = 5 := by
          rcases hs with hs | hs | hs | hs | hs
          · omega
          · subst hs
            unfold znx at g1
            rw [if_neg (by omega), if_neg hred, if_neg k10] at g1
            by_cases k5 : K i = 5
            · rw [if_pos k5, if_neg (by omega)] at g1; omega
            · rw [if_neg k5] at g1
              by_cases k4 : K i = 4
              · rw [if_pos k4, if_neg (by omega)] at g1; omega
              · rw [if_neg k4] at g1
                by_cases k6 : K i = 6
                · rw [if_pos k6, if_neg (by omega)] at g1; omega
                · rw [if_neg k6, if_pos (by omega)] at g1; omega
          · exact hs
          · subst hs
            unfold znx at g1
            rw [if_pos (by omega), if_neg k10] at g1
            omega
          · subst hs
            unfold znx at g1
            rw [if_pos (by omega), if_neg k10] at g1
            omega
        subst hs5
        refine ⟨i, Nat.le_refl _, by omega, Or.inr ?_, hA, fun j h1 h2 => by omega, fun h => by omega, Or.inl rfl⟩
        unfold znx at g1
        rw [if_neg (by omega), if_neg hred, if_neg k10] at g1
        unfold qP
        apply decide_eq_true
        by_cases k5 : K i = 5
        · rw [if_pos k5, if_neg (by omega)] at g1; omega
        · rw [if_neg k5] at g1
          by_cases k4 : K i = 4
          · rw [if_pos k4, if_neg (by omega)] at g1; omega
          · omega
/-- behind a group -/
theorem st_tail {K : Nat → Int} {m : Nat} (hK : ∀ j, j < m → 0 ≤ K j ∧ K j ≤ 10) (d : Int) : ∀ (f i : Nat) (s : Int), m - i = f → i ≤ m → zA K m i s d = true → (s = 6 ∨ s = 9) →
    ∃ e, i ≤ e ∧ e ≤ m ∧ (e = m ∨ qP (K e) = true) ∧ zA K m e 6 d = true ∧ (∀ j, i ≤ j → j < e → (7 ≤ K j ∧ K j ≤ 10) ∧ (K j ≠ 10 → j + 1 < e ∧ K (j + 1) = 10)) ∧ (s = 9 → i < e ∧ K i = 10) := by
  intro f
  induction f with
  | zero =>
    intro i s hf hi hA hs
    have : i = m := by omega
    subst this
    have := zA_at hA
    have hs5 : s = 6 := by omega
    subst hs5
    exact ⟨i, Nat.le_refl _, Nat.le_refl _, Or.inl rfl, hA, fun j h1 h2 => by omega, fun h => by omega⟩
  | succ f ih =>
    intro i s hf hi hA hs
    have hk := hK i (by omega)
    obtain ⟨g1, g2⟩ := zA_in (by omega) hA
    rcases hs with hs | hs
    · subst hs
      by_cases hred : K i = 7 ∨ K i = 8 ∨ K i = 9
      · have hx : znx 6 (K i) d = 9 := by
          unfold znx
          rw [if_neg (by omega), if_pos hred, if_neg (by omega)]
          rfl
        have hd : znd (K i) d = d := by unfold znd; rw [if_neg (by omega), if_neg (by omega)]
        rw [hx, hd] at g2
        obtain ⟨e, e1, e2, e3, e4, e5, e6⟩ := ih (i + 1) 9 (by omega) (by omega) g2 (Or.inr rfl)
        obtain ⟨e8, e9⟩ := e6 rfl
        refine ⟨e, by omega, e2, e3, e4, fun j h1 h2 => ?_, fun h => by omega⟩
        by_cases hj : j = i
        · subst hj
          exact ⟨by omega, fun _ => ⟨by omega, e9⟩⟩
        · exact e5 j (by omega) h2
      · refine ⟨i, Nat.le_refl _, by omega, Or.inr ?_, hA, fun j h1 h2 => by omega, fun h => by omega⟩
        unfold znx at g1
        rw [if_neg (by omega), if_neg hred] at g1
        unfold qP
        apply decide_eq_true
        by_cases k10 : K i = 10
        · rw [if_pos k10, if_pos rfl] at g1; omega
        · rw [if_neg k10] at g1
          by_cases k5 : K i = 5
          · rw [if_pos k5, if_neg (by omega)] at g1; omega
          · rw [if_neg k5] at g1
            by_cases k4 : K i = 4
            · rw [if_pos k4, if_neg (by omega)] at g1; omega
            · omega
    · subst hs
      by_cases k10 : K i = 10
      · have hx : znx 9 (K i) d = 6 := by
          unfold znx
          rw [if_pos (by omega), if_pos k10]
          rfl
        have hd : znd (K i) d = d := by unfold znd; rw [if_neg (by omega), if_neg (by omega)]
        rw [hx, hd] at g2
        obtain ⟨e, e1, e2, e3, e4, e5, e6⟩ := ih (i + 1) 6 (by omega) (by omega) g2 (Or.inl rfl)
        refine ⟨e, by omega, e2, e3, e4, fun j h1 h2 => ?_, fun _ => ⟨by omega, k10⟩⟩
        by_cases hj : j = i
        · subst hj
          exact ⟨by omega, fun h => absurd k10 h⟩
        · exact e5 j (by omega) h2
      · unfold znx at g1
        rw [if_pos (by omega), if_neg k10] at g1
        omega
theorem znx_6 {s d : Int} (h : 0 ≤ znx s 6 d) : znx s 6 d = 6 ∧ 0 < d := by
  unfold znx at h ⊢
  by_cases h7 : 7 ≤ s
  · rw [if_pos h7, if_neg (by omega)] at h; omega
  · rw [if_neg h7, if_neg (by omega), if_neg (by omega), if_neg (by omega), if_neg (by omega), if_pos rfl] at h ⊢
    by_cases hc : 0 < d ∧ (s = 1 ∨ 5 ≤ s)
    · rw [if_pos hc]; exact ⟨rfl, hc.1⟩
    · rw [if_neg hc] at h; omega
/-- the end of a group -/
theorem st_close {K : Nat → Int} {m : Nat} (dl : Int) (hdl : 1 ≤ dl) : ∀ (f i : Nat) (s x : Int), m - i = f → i ≤ m → 0 ≤ x → zA K m i s (dl + x) = true → i ≤ zF qC K m i x ∧ zF qC K m i x < m ∧ K (zF qC K m i x) = 6 ∧ zA K m (zF qC K m i x + 1) 6 (dl - 1) = true := by
  intro f
  induction f with
  | zero =>
    intro i s x hf hi hx hA
    have : i = m := by omega
    subst this
    have := zA_at hA
    omega
  | succ f ih =>
    intro i s x hf hi hx hA
    obtain ⟨g1, g2⟩ := zA_in (by omega) hA
    by_cases hc : x = 0 ∧ qC (K i) = true
    · have k6 : K i = 6 := of_decide_eq_true hc.2
      rw [zF_hit (by omega) hc.1 hc.2]
      rw [k6] at g1 g2
      refine ⟨Nat.le_refl _, by omega, k6, ?_⟩
      rw [(znx_6 g1).1, show znd 6 (dl + x) = dl - 1 by unfold znd; rw [if_neg (by omega), if_pos rfl]; omega] at g2
      exact g2
    · rw [zF_go (by omega) hc]
      have hx2 : 0 ≤ znd (K i) x ∧ znd (K i) (dl + x) = dl + znd (K i) x := by
        unfold znd
        by_cases k5 : K i = 5
        · rw [if_pos k5, if_pos k5]; omega
        · rw [if_neg k5, if_neg k5]
          by_cases k6 : K i = 6
          · rw [if_pos k6, if_pos k6]
            have : x ≠ 0 := fun h0 => hc ⟨h0, by unfold qC; exact decide_eq_true k6⟩
            omega
          · rw [if_neg k6, if_neg k6]; omega
      rw [hx2.2] at g2
      obtain ⟨e1, e2⟩ := ih (i + 1) _ _ (by omega) (by omega) hx2.1 g2
      exact ⟨by omega, e2⟩
/-- one depth more: up to the end of the group nothing is found -/
theorem zF_group (q : Int → Bool) (K : Nat → Int) (m : Nat) : ∀ (f i : Nat) (x : Int), m - i = f → 0 ≤ x → zF qC K m i x < m → zF q K m i (x + 1) = zF q K m (zF qC K m i x + 1) 0 := by
  intro f
  induction f with
  | zero =>
    intro i x hf hx h
    rw [zF_end (by omega)] at h
    omega
  | succ f ih =>
    intro i x hf hx h
    rw [zF_go (by omega) (show ¬ (x + 1 = 0 ∧ q (K i) = true) by omega)]
    by_cases hc : x = 0 ∧ qC (K i) = true
    · have k6 : K i = 6 := of_decide_eq_true hc.2
      rw [zF_hit (q := qC) (by omega) hc.1 hc.2, k6]
      congr 1
      unfold znd
      rw [if_neg (by omega), if_pos rfl]
      omega
    · have hgo := zF_go (q := qC) (K := K) (m := m) (i := i) (d := x) (by omega) hc
      rw [hgo] at h ⊢
      have hx2 : 0 ≤ znd (K i) x ∧ znd (K i) (x + 1) = znd (K i) x + 1 := by
        unfold znd
        by_cases k5 : K i = 5
        · rw [if_pos k5, if_pos k5]; omega
        · rw [if_neg k5, if_neg k5]
          by_cases k6 : K i = 6
          · rw [if_pos k6, if_pos k6]
            have : x ≠ 0 := fun h0 => hc ⟨h0, by unfold qC; exact decide_eq_true k6⟩
            omega
          · rw [if_neg k6, if_neg k6]; omega
      rw [hx2.2]
      exact ih (i + 1) _ (by omega) hx2.1 h
/-- over words and redirections -/
theorem zF_words (q : Int → Bool) (hq : ∀ k : Int, 7 ≤ k → k ≤ 10 → q k = false) (K : Nat → Int) (m e : Nat) (he : e ≤ m) : ∀ (f i : Nat), e - i = f → i ≤ e → (∀ j, i ≤ j → j < e → 7 ≤ K j ∧ K j ≤ 10) → zF q K m i 0 = zF q K m e 0 := by
  intro f
  induction f with
  | zero => intro i hf hi h; rw [show i = e by omega]
  | succ f ih =>
    intro i hf hi h
    have hk := h i (Nat.le_refl _) (by omega)
    rw [zF_go (by omega) (fun hh => by rw [hq _ hk.1 hk.2] at hh; exact absurd hh.2 (by decide)), show znd (K i) 0 = 0 by unfold znd; rw [if_neg (by omega), if_neg (by omega)]]
    exact ih (i + 1) (by omega) (by omega) (fun j h1 h2 => h j (by omega) h2)
/-- behind what was found -/
theorem zF_next (q p : Int → Bool) (K : Nat → Int) (m : Nat) : ∀ (f i : Nat) (d : Int), m - i = f → zF (fun k => q k || p k) K m i d < m → q (K (zF (fun k => q k || p k) K m i d)) = false → K (zF (fun k => q k || p k) K m i d) ≠ 5 → K (zF (fun k => q k || p k) K m i d) ≠ 6 → zF q K m i d = zF q K m (zF (fun k => q k || p k) K m i d + 1) 0 := by
  intro f
  induction f with
  | zero =>
    intro i d hf h
    rw [zF_end (by omega)] at h
    omega
  | succ f ih =>
    intro i d hf h hq h5 h6
    by_cases hc : d = 0 ∧ (q (K i) || p (K i)) = true
    · rw [zF_hit (q := fun k => q k || p k) (by omega) hc.1 hc.2] at h hq h5 h6 ⊢
      rw [zF_go (by omega) (fun hh => by rw [hq] at hh; exact absurd hh.2 (by decide)), show znd (K i) d = 0 by unfold znd; rw [if_neg h5, if_neg h6]; exact hc.1]
    · have hgo := zF_go (q := fun k => q k || p k) (K := K) (m := m) (i := i) (d := d) (by omega) hc
      rw [hgo] at h hq h5 h6 ⊢
      rw [zF_go (q := q) (by omega) (fun hh => hc ⟨hh.1, by rw [hh.2]; rfl⟩)]
      exact ih (i + 1) _ (by omega) h hq h5 h6
/-- a pipeline that is left out -/
theorem st_skip {K : Nat → Int} {m : Nat} (d : Int) (hd : 0 ≤ d) : ∀ (f i : Nat) (s x : Int), m - i = f → i ≤ m → 0 ≤ x → 0 ≤ s ∧ s ≤ 9 → (x = 0 → s ≠ 1) → zA K m i s (d + x) = true → ∃ s2, (s2 = 5 ∨ s2 = 6) ∧ zA K m (zF qS K m i x) s2 d = true := by
  intro f
  induction f with
  | zero =>
    intro i s x hf hi hx hs h1 hA
    have : i = m := by omega
    subst this
    have := zA_at hA
    have hx0 : x = 0 := by omega
    subst hx0
    rw [zF_end (Nat.le_refl _)]
    rw [Int.add_zero] at hA
    exact ⟨s, by have := h1 rfl; omega, hA⟩
  | succ f ih =>
    intro i s x hf hi hx hs h1 hA
    obtain ⟨g1, g2⟩ := zA_in (by omega) hA
    have hin := znx_in s (K i) (d + x) hs
    by_cases hc : x = 0 ∧ qS (K i) = true
    · rw [zF_hit (by omega) hc.1 hc.2]
      have hx0 := hc.1
      subst hx0
      rw [Int.add_zero] at hA g1
      have hk : K i = 0 ∨ K i = 1 ∨ K i = 2 ∨ K i = 6 := of_decide_eq_true hc.2
      have hs1 := h1 rfl
      refine ⟨s, ?_, hA⟩
      unfold znx at g1
      by_cases h7 : 7 ≤ s
      · rw [if_pos h7, if_neg (by omega)] at g1; omega
      · rw [if_neg h7, if_neg (by omega), if_neg (by omega), if_neg (by omega), if_neg (by omega)] at g1
        by_cases k6 : K i = 6
        · rw [if_pos k6] at g1
          by_cases hcc : 0 < d ∧ (s = 1 ∨ 5 ≤ s)
          · omega
          · rw [if_neg hcc] at g1; omega
        · rw [if_neg k6] at g1
          by_cases h5 : s < 5
          · rw [if_pos h5] at g1; omega
          · omega
    · rw [zF_go (by omega) hc]
      have hx2 : 0 ≤ znd (K i) x ∧ znd (K i) (d + x) = d + znd (K i) x := by
        unfold znd
        by_cases k5 : K i = 5
        · rw [if_pos k5, if_pos k5]; omega
        · rw [if_neg k5, if_neg k5]
          by_cases k6 : K i = 6
          · rw [if_pos k6, if_pos k6]
            have : x ≠ 0 := fun h0 => hc ⟨h0, by unfold qS; exact decide_eq_true (by omega)⟩
            omega
          · rw [if_neg k6, if_neg k6]; omega
      rw [hx2.2] at g2
      refine ih (i + 1) _ _ (by omega) (by omega) hx2.1 ⟨g1, hin.2⟩ (fun h0 hs1 => ?_) g2
      -- state 1 comes from ; alone
      have k0 : K i = 0 := by
        unfold znx at hs1
        by_cases h7 : 7 ≤ s
        · rw [if_pos h7] at hs1
          split at hs1 <;> omega
        · rw [if_neg h7] at hs1
          split at hs1
          · split at hs1 <;> omega
          · split at hs1
            · split at hs1 <;> omega
            · split at hs1
              · split at hs1 <;> omega
              · split at hs1
                · split at hs1 <;> omega
                · split at hs1
                  · split at hs1 <;> omega
                  · split at hs1
                    · omega
                    · split at hs1
                      · assumption
                      · split at hs1 <;> omega
      have : znd (K i) x = x := by unfold znd; rw [if_neg (by omega), if_neg (by omega)]
      rw [this] at h0
      exact hc ⟨h0, by unfold qS; exact decide_eq_true (Or.inl k0)⟩
