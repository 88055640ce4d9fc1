/-! what a tool reads -/
/-- the lines of v from place k on, the line begun at a -/
def zl (v : List Int) : Nat → Nat → Nat → List (Nat × Nat)
  | 0, _, _ => []
  | j + 1, k, a => if (k < v.length ∧ v.getD k 0 = 10) ∨ (v.length ≤ k ∧ a < k) then (a, k) :: zl v j (k + 1) (k + 1) else zl v j (k + 1) a
def zLs (r : ZR) (ls : List (Nat × Nat)) : Prop := rI r 39 = (ls.length : Int) ∧ ∀ i : Nat, i < ls.length → rA r 40 i = ((ls.getD i (0, 0)).1 : Int) ∧ rA r 41 i = ((ls.getD i (0, 0)).2 : Int)
theorem zgA2 (w v : List (Nat × Nat)) (i : Nat) : (w ++ v).getD i (0, 0) = if i < w.length then w.getD i (0, 0) else v.getD (i - w.length) (0, 0) := by
  rw [List.getD_eq_getElem?_getD, List.getElem?_append, List.getD_eq_getElem?_getD, List.getD_eq_getElem?_getD]
  split <;> rfl
theorem reads_lines (F : Nat) {v : List Int} (hv : v.length ≤ 160) (hok : ∀ x ∈ v, zOk x) : ∀ (j k a n : Nat) (r : ZR) (ls : List (Nat × Nat)), k + j = v.length + 1 → a ≤ k → j < n → ls.length ≤ k → rI r 38 = (v.length : Int) → zRA r 37 0 v → zLs r ls → ∃ r2, r_reads_174 F n r (a : Int) (k : Int) = some (1, r2) ∧ zLs r2 (ls ++ zl v j k a) ∧ zq [39] [40, 41] r r2 := by
  intro j
  induction j with
  | zero =>
    intro k a n r ls hk ha hn hls h38 hR hL
    obtain ⟨n, rfl⟩ : ∃ n', n = n' + 1 := ⟨n - 1, by omega⟩
    refine ⟨r, ?_, by rw [zl, List.append_nil]; exact hL, zq_rf _ _ r⟩
    rw [r_reads_174, h38, if_pos (by rw [zI_lt (by omega) (by omega) (by omega) (by omega)]; omega)]
  | succ j ih =>
    intro k a n r ls hk ha hn hls h38 hR hL
    obtain ⟨n, rfl⟩ : ∃ n', n = n' + 1 := ⟨n - 1, by omega⟩
    have hx4 : (if zI (v.length : Int) ≤ zI (k : Int) then (if zI (k : Int) ≤ zI (a : Int) then some (0 : Int) else some 1) else if zix (k : Int) 160 then (if ¬ zI (rA r 37 (k : Int).toNat) = zI 10 then some 0 else some 1) else none) = some (if (k < v.length ∧ v.getD k 0 = 10) ∨ (v.length ≤ k ∧ a < k) then 1 else 0) := by
      by_cases hkl : v.length ≤ k
      · rw [if_pos (by rw [zI_le (by omega) (by omega) (by omega) (by omega)]; omega)]
        by_cases hak : a < k
        · rw [if_neg (by rw [zI_le (by omega) (by omega) (by omega) (by omega)]; omega), if_pos (Or.inr ⟨hkl, hak⟩)]
        · rw [if_pos (by rw [zI_le (by omega) (by omega) (by omega) (by omega)]; omega), if_neg (by omega)]
      · have e := hR k (by omega)
        rw [Nat.zero_add] at e
        have hr := hok (v.getD k 0) (by rw [zgE v k (by omega)]; exact List.getElem_mem _)
        unfold zOk at hr
        rw [if_neg (by rw [zI_le (by omega) (by omega) (by omega) (by omega)]; omega), if_pos (show zix (k : Int) 160 from ⟨by omega, by omega, by omega⟩), Int.toNat_natCast, e]
        by_cases h10 : v.getD k 0 = 10
        · rw [if_neg (not_not_intro (by rw [h10])), if_pos (Or.inl ⟨by omega, h10⟩)]
        · rw [if_pos (by rw [zI_eq (by omega) (by omega) (by omega) (by omega)]; exact h10), if_neg (by omega)]
    rw [r_reads_174, h38, if_neg (by rw [zI_lt (by omega) (by omega) (by omega) (by omega)]; omega), hx4, zl]
    simp only [Option.bind_some]
    by_cases hends : (k < v.length ∧ v.getD k 0 = 10) ∨ (v.length ≤ k ∧ a < k)
    · have hz : zix (rI r 39) 161 := by rw [hL.1]; exact ⟨by omega, by omega, by omega⟩
      simp only [if_pos hends, if_neg z10, if_pos hz]
      have hz2 : zix (rI (tA r 40 (rI r 39).toNat (a : Int)) 39) 161 := hz
      simp only [if_pos hz2, Option.bind_some, zb2_some]
      rw [show (k : Int) + 1 = ((k + 1 : Nat) : Int) by omega]
      have e39 : (rI r 39).toNat = ls.length := by rw [hL.1]; omega
      have hL2 : zLs (tI (tA (tA r 40 (rI r 39).toNat (a : Int)) 41 (rI (tA r 40 (rI r 39).toNat (a : Int)) 39).toNat (k : Int)) 39 ((rI (tA (tA r 40 (rI r 39).toNat (a : Int)) 41 (rI (tA r 40 (rI r 39).toNat (a : Int)) 39).toNat (k : Int)) 39) + 1)) (ls ++ [(a, k)]) := by
        refine ⟨?_, fun i hi => ?_⟩
        · show rI r 39 + 1 = _
          rw [hL.1, List.length_append, List.length_singleton]
          omega
        · rw [List.length_append, List.length_singleton] at hi
          have E0 : rA (tI (tA (tA r 40 (rI r 39).toNat (a : Int)) 41 (rI (tA r 40 (rI r 39).toNat (a : Int)) 39).toNat (k : Int)) 39 ((rI (tA (tA r 40 (rI r 39).toNat (a : Int)) 41 (rI (tA r 40 (rI r 39).toNat (a : Int)) 39).toNat (k : Int)) 39) + 1)) 40 i = if i = ls.length then (a : Int) else rA r 40 i := by
            show (if 40 = 41 ∧ i = (rI r 39).toNat then (k : Int) else if 40 = 40 ∧ i = (rI r 39).toNat then (a : Int) else rA r 40 i) = _
            rw [e39]
            simp
          have E1 : rA (tI (tA (tA r 40 (rI r 39).toNat (a : Int)) 41 (rI (tA r 40 (rI r 39).toNat (a : Int)) 39).toNat (k : Int)) 39 ((rI (tA (tA r 40 (rI r 39).toNat (a : Int)) 41 (rI (tA r 40 (rI r 39).toNat (a : Int)) 39).toNat (k : Int)) 39) + 1)) 41 i = if i = ls.length then (k : Int) else rA r 41 i := by
            show (if 41 = 41 ∧ i = (rI r 39).toNat then (k : Int) else if 41 = 40 ∧ i = (rI r 39).toNat then (a : Int) else rA r 41 i) = _
            rw [e39]
            simp
          rw [E0, E1, zgA2]
          by_cases hi2 : i < ls.length
          · have hne : ¬ i = ls.length := by omega
            simp only [hne, hi2, if_false, if_true]
            exact hL.2 i hi2
          · have hne : i = ls.length := by omega
            subst hne
            simp only [Nat.lt_irrefl, if_false, if_true, Nat.sub_self]
            exact ⟨rfl, rfl⟩
      obtain ⟨r2, c1, c2, c3⟩ := ih (k + 1) (k + 1) n _ (ls ++ [(a, k)]) (by omega) (Nat.le_refl _) (by omega) (by rw [List.length_append, List.length_singleton]; omega) (by exact h38) (by exact hR) hL2
      refine ⟨r2, c1, ?_, zq_tr (zq_tr (zq_tr (zq_A _ _ r 40 _ _ (by decide)) (zq_A _ _ _ 41 _ _ (by decide))) (zq_I _ _ _ 39 _ (by decide))) c3⟩
      rw [List.append_assoc] at c2
      exact c2
    · simp only [if_neg hends, if_pos z00, zb2_some]
      rw [show (k : Int) + 1 = ((k + 1 : Nat) : Int) by omega]
      exact ih (k + 1) a n r ls (by omega) (by omega) (by omega) (by omega) h38 hR hL
/-- the reference has read v -/
def zSrc (r : ZR) (v : List Int) : Prop := rI r 38 = (v.length : Int) ∧ v.length ≤ 160 ∧ (∀ x ∈ v, zOk x) ∧ zRA r 37 0 v ∧ zLs r (zl v (v.length + 1) 0 0)
theorem reads_end (F : Nat) (hF : 170 ≤ F) {v : List Int} (hv : v.length ≤ 160) (hok : ∀ x ∈ v, zOk x) {r : ZR} (h38 : rI r 38 = (v.length : Int)) (hR : zRA r 37 0 v) : ∃ r2, r_reads_174 F F (tI r 39 0) 0 0 = some (1, r2) ∧ zSrc r2 v ∧ zq [39] [40, 41] r r2 := by
  obtain ⟨r2, c1, c2, c3⟩ := reads_lines F hv hok (v.length + 1) 0 0 F (tI r 39 0) [] (by omega) (Nat.le_refl _) (by omega) (Nat.le_refl _) h38 hR ⟨rfl, fun i hi => absurd hi (Nat.not_lt_zero i)⟩
  refine ⟨r2, c1, ⟨by rw [c3.1 38 (by decide)]; exact h38, hv, hok, fun i hi => by rw [c3.2.2.1 37 _ (by decide)]; exact hR i hi, c2⟩, zq_tr (zq_I _ _ r 39 0 (by decide)) c3⟩
theorem copy54 (F : Nat) {v : List Int} (hv : v.length ≤ 160) (x : Nat) (hx : x ≤ 12) : ∀ (j k n : Nat) (r : ZR), k + j = v.length → j < n → rI r 38 = (v.length : Int) → rI r 42 = (x : Int) → zRA r 8 (160 * x) v → (∀ i, i < k → rA r 37 i = v.getD i 0) → ∃ r2, r_reads_54 F n r (k : Int) = r_reads_174 F F (tI r2 39 0) 0 0 ∧ zRA r2 37 0 v ∧ zq [] [37] r r2 := by
  intro j
  induction j with
  | zero =>
    intro k n r hk hn h38 h42 h8 hd
    obtain ⟨n, rfl⟩ : ∃ n', n = n' + 1 := ⟨n - 1, by omega⟩
    refine ⟨r, ?_, fun i hi => by rw [Nat.zero_add]; exact hd i (by omega), zq_rf _ _ r⟩
    rw [r_reads_54, h38, if_pos (by rw [zI_le (by omega) (by omega) (by omega) (by omega)]; omega)]
  | succ j ih =>
    intro k n r hk hn h38 h42 h8 hd
    obtain ⟨n, rfl⟩ : ∃ n', n = n' + 1 := ⟨n - 1, by omega⟩
    rw [r_reads_54, h38, if_neg (by rw [zI_le (by omega) (by omega) (by omega) (by omega)]; omega), h42, if_pos (show zix (160 * (x : Int) + (k : Int)) 2080 from ⟨by omega, by omega, by omega⟩), if_pos (show zix (k : Int) 160 from ⟨by omega, by omega, by omega⟩)]
    simp only [Option.bind_some]
    rw [show (160 * (x : Int) + (k : Int)).toNat = 160 * x + k by omega, h8 k (by omega), Int.toNat_natCast, show (k : Int) + 1 = ((k + 1 : Nat) : Int) by omega]
    obtain ⟨r2, c1, c2, c3⟩ := ih (k + 1) n (tA r 37 k (v.getD k 0)) (by omega) (by omega) h38 h42 h8 (fun i hi => by
      show (if 37 = 37 ∧ i = k then v.getD k 0 else rA r 37 i) = _
      by_cases hik : i = k
      · rw [if_pos ⟨rfl, hik⟩, hik]
      · rw [if_neg (by omega)]
        exact hd i (by omega))
    exact ⟨r2, c1, c2, zq_tr (zq_A _ _ r 37 _ _ (by decide)) c3⟩
theorem copy126 (F : Nat) {v : List Int} (hv : v.length ≤ 160) (b : Nat) (hb : b < 10) : ∀ (j k n : Nat) (r : ZR), k + j = v.length → j < n → rI r 38 = (v.length : Int) → zRA r 32 (160 * b) v → (∀ i, i < k → rA r 37 i = v.getD i 0) → ∃ r2, r_reads_126 F n r (b : Int) (k : Int) = r_reads_174 F F (tI (tA r2 33 b 0) 39 0) 0 0 ∧ zRA r2 37 0 v ∧ zq [] [37] r r2 := by
  intro j
  induction j with
  | zero =>
    intro k n r hk hn h38 h8 hd
    obtain ⟨n, rfl⟩ : ∃ n', n = n' + 1 := ⟨n - 1, by omega⟩
    refine ⟨r, ?_, fun i hi => by rw [Nat.zero_add]; exact hd i (by omega), zq_rf _ _ r⟩
    rw [r_reads_126, h38, if_pos (by rw [zI_le (by omega) (by omega) (by omega) (by omega)]; omega), if_pos (show zix (b : Int) 10 from ⟨by omega, by omega, by omega⟩), Int.toNat_natCast]
  | succ j ih =>
    intro k n r hk hn h38 h8 hd
    obtain ⟨n, rfl⟩ : ∃ n', n = n' + 1 := ⟨n - 1, by omega⟩
    rw [r_reads_126, h38, if_neg (by rw [zI_le (by omega) (by omega) (by omega) (by omega)]; omega), if_pos (show zix (160 * (b : Int) + (k : Int)) 1600 from ⟨by omega, by omega, by omega⟩), if_pos (show zix (k : Int) 160 from ⟨by omega, by omega, by omega⟩)]
    simp only [Option.bind_some]
    rw [show (160 * (b : Int) + (k : Int)).toNat = 160 * b + k by omega, h8 k (by omega), Int.toNat_natCast, show (k : Int) + 1 = ((k + 1 : Nat) : Int) by omega]
    obtain ⟨r2, c1, c2, c3⟩ := ih (k + 1) n (tA r 37 k (v.getD k 0)) (by omega) (by omega) h38 h8 (fun i hi => by
      show (if 37 = 37 ∧ i = k then v.getD k 0 else rA r 37 i) = _
      by_cases hik : i = k
      · rw [if_pos ⟨rfl, hik⟩, hik]
      · rw [if_neg (by omega)]
        exact hd i (by omega))
    exact ⟨r2, c1, c2, zq_tr (zq_A _ _ r 37 _ _ (by decide)) c3⟩
/-- a file's content -/
theorem zfile {u : ZC} {r : ZR} {c h : Nat} (H : zTree u r c h) (hl : 0 ≤ cI u 5 0 ∧ cI u 5 0 ≤ 160) (n t : Nat) (hn : n ≤ c) (h6 : cP u 6 n = some t) : t = n + 23 ∧ 1 ≤ n ∧ rA r 4 n = 0 ∧ zlT u t ∧ (cN u t : Int) = cI u 5 0 ∧ ∃ v, zT u t v ∧ v.length ≤ 160 ∧ rA r 7 n = (v.length : Int) ∧ zRA r 8 (160 * n) v := by
  by_cases h0 : n = 0
  · subst h0
    rw [H.2.2.2.2.2.2.2.2.1.2.1] at h6
    cases h6
  · rcases (H.2.2.2.2.2.2.2.2.2.1 n (by omega) hn).2.2.2.2.2 with ⟨a, -⟩ | ⟨a, b1, b2, b3, b4, b5, b6, b7, b8⟩
    · rw [a] at h6; cases h6
    · have ht : t = n + 23 := by rw [a] at h6; exact (Option.some.inj h6).symm
      subst ht
      obtain ⟨len, hlen⟩ : ∃ len : Nat, cI u 0 (n + 23) = (len : Int) := ⟨(cI u 0 (n + 23)).toNat, by omega⟩
      have hgl : ((List.range len).map (cA u 0 (n + 23))).length = len := by rw [List.length_map, List.length_range]
      have hg : ∀ i, i < len → ((List.range len).map (cA u 0 (n + 23))).getD i 0 = cA u 0 (n + 23) i := by
        intro i hi
        rw [zgE _ i (by rw [hgl]; exact hi), List.getElem_map, List.getElem_range]
      refine ⟨rfl, by omega, b1, Or.inr ⟨b2, b3⟩, b4, (List.range len).map (cA u 0 (n + 23)), ⟨by rw [hgl]; exact hlen, by rw [hgl]; omega, fun i hi => ?_, fun x hx => ?_⟩, by rw [hgl]; omega, by rw [hgl, b7]; exact hlen, fun i hi => ?_⟩
      · rw [hgl] at hi
        exact (hg i hi).symm
      · obtain ⟨i, hi, rfl⟩ := List.mem_map.1 hx
        exact (b8 i (by have := List.mem_range.1 hi; omega)).2
      · rw [hgl] at hi
        rw [hg i hi]
        exact (b8 i (by omega)).1.symm
