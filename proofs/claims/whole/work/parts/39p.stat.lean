/-! the shape of a line in the grammar, over the kinds of its tokens -/
/-- the first place from i on, at depth 0 (d: the depth now), with a kind that q tells; else m -/
def zfd (q : Int → Bool) (K : Nat → Int) (m : Nat) : Nat → Nat → Int → Nat
  | 0, _, _ => m
  | f + 1, i, d => if m ≤ i then m else if d = 0 ∧ q (K i) = true then i else zfd q K m f (i + 1) (znd (K i) d)
def zF (q : Int → Bool) (K : Nat → Int) (m i : Nat) (d : Int) : Nat := zfd q K m (m - i) i d
theorem zF_end {q : Int → Bool} {K : Nat → Int} {m i : Nat} {d : Int} (h : m ≤ i) : zF q K m i d = m := by
  unfold zF
  rw [show m - i = 0 by omega, zfd]
theorem zF_hit {q : Int → Bool} {K : Nat → Int} {m i : Nat} {d : Int} (h : i < m) (h0 : d = 0) (hq : q (K i) = true) : zF q K m i d = i := by
  unfold zF
  obtain ⟨j, hj⟩ : ∃ j, m - i = j + 1 := ⟨m - i - 1, by omega⟩
  rw [hj, zfd, if_neg (by omega), if_pos ⟨h0, hq⟩]
theorem zF_go {q : Int → Bool} {K : Nat → Int} {m i : Nat} {d : Int} (h : i < m) (hn : ¬ (d = 0 ∧ q (K i) = true)) : zF q K m i d = zF q K m (i + 1) (znd (K i) d) := by
  unfold zF
  obtain ⟨j, hj⟩ : ∃ j, m - i = j + 1 := ⟨m - i - 1, by omega⟩
  rw [hj, zfd, if_neg (by omega), if_neg hn, show m - (i + 1) = j by omega]
theorem zF_in (q : Int → Bool) (K : Nat → Int) (m : Nat) : ∀ (f i : Nat) (d : Int), m - i = f → (i ≤ m → i ≤ zF q K m i d) ∧ zF q K m i d ≤ m ∧ (zF q K m i d < m → q (K (zF q K m i d)) = true) := by
  intro f
  induction f with
  | zero =>
    intro i d hf
    rw [zF_end (by omega)]
    exact ⟨fun h => h, Nat.le_refl _, fun h => by omega⟩
  | succ f ih =>
    intro i d hf
    by_cases hh : d = 0 ∧ q (K i) = true
    · rw [zF_hit (by omega) hh.1 hh.2]
      exact ⟨fun _ => Nat.le_refl _, by omega, fun _ => hh.2⟩
    · rw [zF_go (by omega) hh]
      have := ih (i + 1) (znd (K i) d) (by omega)
      exact ⟨fun _ => by have := this.1 (by omega); omega, this.2.1, this.2.2⟩
/-- what parts: pipelines, commands; what closes -/
def qC (k : Int) : Bool := decide (k = 6)
def qS (k : Int) : Bool := decide (k = 0 ∨ k = 1 ∨ k = 2 ∨ k = 6)
def qP (k : Int) : Bool := decide (k = 0 ∨ k = 1 ∨ k = 2 ∨ k = 3 ∨ k = 6)
/-- the class's search, where its end is a place that q finds -/
theorem cfind_is (F : Nat) {u : ZC} {m : Nat} (hm64 : m ≤ 64) (h2 : cI u 2 0 = (m : Int)) (hK : ∀ j, j < m → 0 ≤ cA u 1 0 j ∧ cA u 1 0 j ≤ 10) (q p : Int → Bool) (lo hi : Int) (hlo : 0 ≤ lo ∧ lo ≤ 20) (hhi : 0 ≤ hi ∧ hi ≤ 20) (hp : ∀ k : Int, 0 ≤ k → k ≤ 10 → (lo ≤ k ∧ k ≤ hi ↔ p k = true)) (to : Nat) (hto : to ≤ m) : ∀ (f i n : Nat) (d : Int), m - i = f → i ≤ 65 → -(i : Int) - 1 ≤ d ∧ d ≤ (i : Int) + 1 → f < n → to = zF q (cA u 1 0) m i d →
    cTokens_find_6 F n u (to : Int) lo hi d (i : Int) = some ((zF (fun k => q k || p k) (cA u 1 0) m i d : Nat) : Int) := by
  intro f
  induction f with
  | zero =>
    intro i n d hf hi65 hd hn ht
    obtain ⟨n, rfl⟩ : ∃ n', n = n' + 1 := ⟨n - 1, by omega⟩
    rw [zF_end (by omega)] at ht
    rw [zF_end (by omega), cTokens_find_6, if_pos (by rw [zI_le (by omega) (by omega) (by omega) (by omega)]; omega), ht]
  | succ f ih =>
    intro i n d hf hi65 hd hn ht
    obtain ⟨n, rfl⟩ : ∃ n', n = n' + 1 := ⟨n - 1, by omega⟩
    have hki := hK i (by omega)
    by_cases hq : d = 0 ∧ q (cA u 1 0 i) = true
    · rw [zF_hit (by omega) hq.1 hq.2] at ht
      rw [zF_hit (by omega) hq.1 (by rw [hq.2]; rfl), cTokens_find_6, if_pos (by rw [zI_le (by omega) (by omega) (by omega) (by omega)]; omega), ht]
    · have hgo := zF_go (q := q) (K := cA u 1 0) (m := m) (i := i) (d := d) (by omega) hq
      have hge := (zF_in q (cA u 1 0) m (m - (i + 1)) (i + 1) (znd (cA u 1 0 i) d) rfl).1 (by omega)
      have hkat : cTokens_kindAt F u (i : Int) = some (cA u 1 0 i) := by
        unfold cTokens_kindAt
        rw [h2, if_neg (by rw [zI_lt0 (by omega) (by omega)]; omega), if_neg (by rw [zI_le (by omega) (by omega) (by omega) (by omega)]; omega)]
        simp only [Option.bind_some, reduceCtorEq, if_false, if_pos (show zix (i : Int) 64 from ⟨by omega, by omega, by omega⟩), Int.toNat_natCast]
      rw [cTokens_find_6, if_neg (by rw [zI_le (by omega) (by omega) (by omega) (by omega)]; omega), hkat]
      simp only [Option.bind_some]
      have hcnd : (if ¬ zI d = 0 then some true else if zI (cA u 1 0 i) < zI lo then some true else if zI hi < zI (cA u 1 0 i) then some true else some false) = some (!decide (d = 0 ∧ p (cA u 1 0 i) = true)) := by
        by_cases h0 : d = 0
        · rw [if_neg (not_not_intro (by rw [h0]; decide))]
          by_cases hpk : p (cA u 1 0 i) = true
          · have := (hp _ hki.1 hki.2).2 hpk
            rw [if_neg (by rw [zI_lt (by omega) (by omega) (by omega) (by omega)]; omega), if_neg (by rw [zI_lt (by omega) (by omega) (by omega) (by omega)]; omega), decide_eq_true ⟨h0, hpk⟩]
            rfl
          · have hnn : ¬ (lo ≤ cA u 1 0 i ∧ cA u 1 0 i ≤ hi) := fun hh => hpk ((hp _ hki.1 hki.2).1 hh)
            rw [decide_eq_false (fun hh => hpk hh.2)]
            by_cases hlt : cA u 1 0 i < lo
            · rw [if_pos (by rw [zI_lt (by omega) (by omega) (by omega) (by omega)]; omega)]
              rfl
            · rw [if_neg (by rw [zI_lt (by omega) (by omega) (by omega) (by omega)]; omega), if_pos (by rw [zI_lt (by omega) (by omega) (by omega) (by omega)]; omega)]
              rfl
        · rw [if_pos (by rw [zI_eq0 (by omega) (by omega)]; exact h0), decide_eq_false (fun hh => h0 hh.1)]
          rfl
      rw [hcnd]
      simp only [Option.bind_some]
      by_cases hpp : d = 0 ∧ p (cA u 1 0 i) = true
      · rw [decide_eq_true hpp, zF_hit (by omega) hpp.1 (by rw [hpp.2, Bool.or_true])]
        rfl
      · rw [decide_eq_false hpp]
        have hnd : (Option.bind (if ¬ zI (cA u 1 0 i) = zI 5 then (if ¬ zI (cA u 1 0 i) = zI 6 then some d else some (d + (-1))) else some (d + 1)) fun (x3 : Int) => cTokens_find_6 F n u (to : Int) lo hi x3 ((i : Int) + 1)) = cTokens_find_6 F n u (to : Int) lo hi (znd (cA u 1 0 i) d) ((i : Int) + 1) := by
          unfold znd
          by_cases h5 : cA u 1 0 i = 5
          · rw [if_neg (not_not_intro (by rw [h5])), if_pos h5]
            rfl
          · rw [if_pos (by rw [zI_eq (by omega) (by omega) (by omega) (by omega)]; exact h5), if_neg h5]
            by_cases h6 : cA u 1 0 i = 6
            · rw [if_neg (not_not_intro (by rw [h6])), if_pos h6]
              rfl
            · rw [if_pos (by rw [zI_eq (by omega) (by omega) (by omega) (by omega)]; exact h6), if_neg h6]
              rfl
        have hndb : d - 1 ≤ znd (cA u 1 0 i) d ∧ znd (cA u 1 0 i) d ≤ d + 1 := by
          unfold znd
          split
          · omega
          · split <;> omega
        simp only [Bool.not_false, if_true]
        rw [hnd, show (i : Int) + 1 = ((i + 1 : Nat) : Int) by omega, zF_go (by omega) (show ¬ (d = 0 ∧ (q (cA u 1 0 i) || p (cA u 1 0 i)) = true) by
          rintro ⟨h0, hh⟩
          rw [Bool.or_eq_true] at hh
          rcases hh with hh | hh
          · exact hq ⟨h0, hh⟩
          · exact hpp ⟨h0, hh⟩)]
        exact ih (i + 1) n _ (by omega) (by omega) (by omega) (by omega) (by rw [ht, hgo])
/-- the class's search for the end of a group, which lies ahead of the end that is given -/
theorem cfind_hit (F : Nat) {u : ZC} {m : Nat} (hm64 : m ≤ 64) (h2 : cI u 2 0 = (m : Int)) (hK : ∀ j, j < m → 0 ≤ cA u 1 0 j ∧ cA u 1 0 j ≤ 10) (to : Nat) (hto : to ≤ m) : ∀ (f i n : Nat) (d : Int), m - i = f → i ≤ 65 → -(i : Int) - 1 ≤ d ∧ d ≤ (i : Int) + 1 → f < n → zF qC (cA u 1 0) m i d < to →
    cTokens_find_6 F n u (to : Int) 6 6 d (i : Int) = some ((zF qC (cA u 1 0) m i d : Nat) : Int) := by
  intro f
  induction f with
  | zero =>
    intro i n d hf hi65 hd hn ht
    rw [zF_end (by omega)] at ht
    omega
  | succ f ih =>
    intro i n d hf hi65 hd hn ht
    obtain ⟨n, rfl⟩ : ∃ n', n = n' + 1 := ⟨n - 1, by omega⟩
    have hki := hK i (by omega)
    have hge := (zF_in qC (cA u 1 0) m (m - i) i d rfl).1 (by omega)
    have hkat : cTokens_kindAt F u (i : Int) = some (cA u 1 0 i) := by
      unfold cTokens_kindAt
      rw [h2, if_neg (by rw [zI_lt0 (by omega) (by omega)]; omega), if_neg (by rw [zI_le (by omega) (by omega) (by omega) (by omega)]; omega)]
      simp only [Option.bind_some, reduceCtorEq, if_false, if_pos (show zix (i : Int) 64 from ⟨by omega, by omega, by omega⟩), Int.toNat_natCast]
    rw [cTokens_find_6, if_neg (by rw [zI_le (by omega) (by omega) (by omega) (by omega)]; omega), hkat]
    simp only [Option.bind_some]
    have hcnd : (if ¬ zI d = 0 then some true else if zI (cA u 1 0 i) < zI 6 then some true else if zI 6 < zI (cA u 1 0 i) then some true else some false) = some (!decide (d = 0 ∧ cA u 1 0 i = 6)) := by
      by_cases h0 : d = 0
      · rw [if_neg (not_not_intro (by rw [h0]; decide))]
        by_cases hlt : cA u 1 0 i < 6
        · rw [if_pos (by rw [zI_lt (by omega) (by omega) (by omega) (by omega)]; omega), decide_eq_false (by omega)]
          rfl
        · rw [if_neg (by rw [zI_lt (by omega) (by omega) (by omega) (by omega)]; omega)]
          by_cases hgt : 6 < cA u 1 0 i
          · rw [if_pos (by rw [zI_lt (by omega) (by omega) (by omega) (by omega)]; omega), decide_eq_false (by omega)]
            rfl
          · rw [if_neg (by rw [zI_lt (by omega) (by omega) (by omega) (by omega)]; omega), decide_eq_true ⟨h0, by omega⟩]
            rfl
      · rw [if_pos (by rw [zI_eq0 (by omega) (by omega)]; exact h0), decide_eq_false (fun hh => h0 hh.1)]
        rfl
    rw [hcnd]
    simp only [Option.bind_some]
    by_cases hpp : d = 0 ∧ cA u 1 0 i = 6
    · rw [decide_eq_true hpp, zF_hit (by omega) hpp.1 (by unfold qC; exact decide_eq_true hpp.2)]
      rfl
    · rw [decide_eq_false hpp]
      have hnd : (Option.bind (if ¬ zI (cA u 1 0 i) = zI 5 then (if ¬ zI (cA u 1 0 i) = zI 6 then some d else some (d + (-1))) else some (d + 1)) fun (x3 : Int) => cTokens_find_6 F n u (to : Int) 6 6 x3 ((i : Int) + 1)) = cTokens_find_6 F n u (to : Int) 6 6 (znd (cA u 1 0 i) d) ((i : Int) + 1) := by
        unfold znd
        by_cases h5 : cA u 1 0 i = 5
        · rw [if_neg (not_not_intro (by rw [h5])), if_pos h5]
          rfl
        · rw [if_pos (by rw [zI_eq (by omega) (by omega) (by omega) (by omega)]; exact h5), if_neg h5]
          by_cases h6 : cA u 1 0 i = 6
          · rw [if_neg (not_not_intro (by rw [h6])), if_pos h6]
            rfl
          · rw [if_pos (by rw [zI_eq (by omega) (by omega) (by omega) (by omega)]; exact h6), if_neg h6]
            rfl
      have hndb : d - 1 ≤ znd (cA u 1 0 i) d ∧ znd (cA u 1 0 i) d ≤ d + 1 := by
        unfold znd
        split
        · omega
        · split <;> omega
      have hgo := zF_go (q := qC) (K := cA u 1 0) (m := m) (i := i) (d := d) (by omega) (fun hh => hpp ⟨hh.1, of_decide_eq_true hh.2⟩)
      simp only [Bool.not_false, if_true]
      rw [hnd, show (i : Int) + 1 = ((i + 1 : Nat) : Int) by omega, hgo]
      exact ih (i + 1) n _ (by omega) (by omega) (by omega) (by omega) (by rw [← hgo]; exact ht)
/-- the reference's end of a pipeline (b = 0) or of a command (b = 1) -/
theorem rpend_is (F : Nat) {r : ZR} {K : Nat → Int} {m : Nat} (hm64 : m ≤ 64) (h12 : rI r 12 = (m : Int)) (hK : ∀ j, j < m → (0 ≤ K j ∧ K j ≤ 10) ∧ rA r 13 j = zrk (K j)) (b : Bool) : ∀ (f i n : Nat) (d : Int), m - i = f → i ≤ 65 → -(i : Int) - 1 ≤ d ∧ d ≤ (i : Int) + 1 → f < n →
    r_pipelineEnd_5 F n r (zB b) d (i : Int) = some ((zF (if b = true then qP else qS) K m i d : Nat) : Int) := by
  intro f
  induction f with
  | zero =>
    intro i n d hf hi65 hd hn
    obtain ⟨n, rfl⟩ : ∃ n', n = n' + 1 := ⟨n - 1, by omega⟩
    rw [zF_end (by omega), r_pipelineEnd_5, h12, if_pos (by rw [zI_le (by omega) (by omega) (by omega) (by omega)]; omega)]
  | succ f ih =>
    intro i n d hf hi65 hd hn
    obtain ⟨n, rfl⟩ : ∃ n', n = n' + 1 := ⟨n - 1, by omega⟩
    obtain ⟨hki, hr⟩ := hK i (by omega)
    have hq := zrk_eq hki
    have hzr := hq.2.2.2.1
    rw [r_pipelineEnd_5, h12, if_neg (by rw [zI_le (by omega) (by omega) (by omega) (by omega)]; omega), if_pos (show zix (i : Int) 64 from ⟨by omega, by omega, by omega⟩), Int.toNat_natCast, hr]
    simp only [zI_eq0 (a := d) (by omega) (by omega), zI_eq (a := zrk (K i)) (b := 1) (by omega) (by omega) (by omega) (by omega), zI_eq (a := zrk (K i)) (b := 2) (by omega) (by omega) (by omega) (by omega), zI_eq (a := zrk (K i)) (b := 3) (by omega) (by omega) (by omega) (by omega), zI_eq (a := zrk (K i)) (b := 4) (by omega) (by omega) (by omega) (by omega), zI_eq (a := zrk (K i)) (b := 8) (by omega) (by omega) (by omega) (by omega), zI_eq (a := zrk (K i)) (b := 9) (by omega) (by omega) (by omega) (by omega), hq.1, hq.2.1, hq.2.2.2.2.1, hq.2.2.2.2.2.1, hq.2.2.2.2.2.2.1, hq.2.2.2.2.2.2.2.1]
    have hcnd : (if ¬ d = 0 then some true else if K i = 0 then some false else if K i = 1 then some false else if K i = 2 then some false else if K i = 6 then some false else if zI (zB b) = 0 then some true else if ¬ K i = 3 then some true else some false) = some (!decide (d = 0 ∧ (if b = true then qP else qS) (K i) = true)) := by
      by_cases h0 : d = 0
      · rw [if_neg (not_not_intro h0)]
        simp only [h0, true_and]
        by_cases k0 : K i = 0
        · rw [if_pos k0, k0]; cases b <;> rfl
        · rw [if_neg k0]
          by_cases k1 : K i = 1
          · rw [if_pos k1, k1]; cases b <;> rfl
          · rw [if_neg k1]
            by_cases k2 : K i = 2
            · rw [if_pos k2, k2]; cases b <;> rfl
            · rw [if_neg k2]
              by_cases k6 : K i = 6
              · rw [if_pos k6, k6]; cases b <;> rfl
              · rw [if_neg k6]
                cases b
                · have : qS (K i) = false := by unfold qS; exact decide_eq_false (by omega)
                  simp only [reduceCtorEq, if_false, this, decide_false, Bool.not_false]
                  rfl
                · by_cases k3 : K i = 3
                  · rw [k3]; rfl
                  · have : qP (K i) = false := by unfold qP; exact decide_eq_false (by omega)
                    simp only [if_true, this, decide_false, Bool.not_false, reduceCtorEq]
                    rw [zB_t, if_neg z10, if_pos k3]
      · rw [if_pos h0, decide_eq_false (fun hh => h0 hh.1)]
        rfl
    rw [hcnd]
    simp only [Option.bind_some]
    by_cases hpp : d = 0 ∧ (if b = true then qP else qS) (K i) = true
    · rw [decide_eq_true hpp, zF_hit (by omega) hpp.1 hpp.2]
      rfl
    · rw [decide_eq_false hpp]
      have hnd : (Option.bind (if ¬ K i = 5 then (if ¬ K i = 6 then some d else some (d - 1)) else some (d + 1)) fun (x3 : Int) => r_pipelineEnd_5 F n r (zB b) x3 ((i : Int) + 1)) = r_pipelineEnd_5 F n r (zB b) (znd (K i) d) ((i : Int) + 1) := by
        unfold znd
        by_cases h5 : K i = 5
        · rw [if_neg (not_not_intro h5), if_pos h5]
          rfl
        · rw [if_pos h5, if_neg h5]
          by_cases h6 : K i = 6
          · rw [if_neg (not_not_intro h6), if_pos h6]
            rfl
          · rw [if_pos h6, if_neg h6]
            rfl
      have hndb : d - 1 ≤ znd (K i) d ∧ znd (K i) d ≤ d + 1 := by
        unfold znd
        split
        · omega
        · split <;> omega
      simp only [Bool.not_false, if_true]
      rw [hnd, show (i : Int) + 1 = ((i + 1 : Nat) : Int) by omega, zF_go (by omega) hpp]
      exact ih (i + 1) n _ (by omega) (by omega) (by omega) (by omega)
theorem pend_is (F : Nat) (hF : 70 ≤ F) {r : ZR} {K : Nat → Int} {m : Nat} (hm64 : m ≤ 64) (h12 : rI r 12 = (m : Int)) (hK : ∀ j, j < m → (0 ≤ K j ∧ K j ≤ 10) ∧ rA r 13 j = zrk (K j)) (b : Bool) (i : Nat) (hi : i ≤ 65) : r_pipelineEnd F r (i : Int) (zB b) = some ((zF (if b = true then qP else qS) K m i 0 : Nat) : Int) :=
  rpend_is F hm64 h12 hK b (m - i) i F 0 rfl hi (by omega) (by omega)
