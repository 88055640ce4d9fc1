/-! grep -/
/-- letters first .. last of the pattern stand at place p of v -/
def zft (fl v : List Int) (b : Nat) : Nat → Nat → Nat → Bool
  | 0, _, _ => true
  | j + 1, i, q => if b ≤ i then true else if fl.getD i 0 = 46 ∨ fl.getD i 0 = v.getD q 0 then zft fl v b j (i + 1) (q + 1) else false
theorem fits_loop (F : Nat) {u : ZC} {fl v : List Int} (hfl : fl.length ≤ 96) (hL : zlw fl) (hT : zT u 1 fl) (hN : cN u 1 = 96) (src : Nat) (hls : zlT u src) (hS : zT u src v) (hv : v.length ≤ 160) (a b : Nat) (hb : b ≤ fl.length) (p : Nat) (hp : p + (b - a) ≤ v.length) : ∀ (j i n : Nat), i + j = b → a ≤ i → j < n → cTools_fits_3 F n u src (p : Int) (a : Int) (b : Int) (i : Int) = some (zB (zft fl v b j i (p + (i - a)))) := by
  intro j
  induction j with
  | zero =>
    intro i n hi ha hn
    obtain ⟨n, rfl⟩ : ∃ n', n = n' + 1 := ⟨n - 1, by omega⟩
    rw [cTools_fits_3, if_pos (by rw [zI_le (by omega) (by omega) (by omega) (by omega)]; omega)]
    rfl
  | succ j ih =>
    intro i n hi ha hn
    obtain ⟨n, rfl⟩ : ∃ n', n = n' + 1 := ⟨n - 1, by omega⟩
    have hx := zlw_get hL i (by omega)
    have hy : zOk (v.getD (p + (i - a)) 0) := hS.2.2.2 _ (by rw [zgE v (p + (i - a)) (by omega)]; exact List.getElem_mem _)
    unfold zOk at hy
    have hlen2 := hS.2.1
    rw [cTools_fits_3, if_neg (by rw [zI_le (by omega) (by omega) (by omega) (by omega)]; omega), if_pos (show zix (i : Int) (cN u 1) from ⟨by omega, by omega, by omega⟩), if_pos hls, if_pos (show zix ((p : Int) + (i : Int) - (a : Int)) (cN u src) from ⟨by omega, by omega, by omega⟩)]
    rw [Int.toNat_natCast, show ((p : Int) + (i : Int) - (a : Int)).toNat = p + (i - a) by omega, hT.2.2.1 i (by omega), hS.2.2.1 _ (by omega), zft, if_neg (show ¬ b ≤ i by omega)]
    have hcnd : (if zI (fl.getD i 0) = zI 46 then some true else if zI (fl.getD i 0) = zI (v.getD (p + (i - a)) 0) then some true else some false) = some (decide (fl.getD i 0 = 46 ∨ fl.getD i 0 = v.getD (p + (i - a)) 0)) := by
      simp only [zI_eq (a := fl.getD i 0) (b := 46) (by omega) (by omega) (by omega) (by omega), zI_eq (a := fl.getD i 0) (b := v.getD (p + (i - a)) 0) (by omega) (by omega) (by omega) (by omega)]
      by_cases h46 : fl.getD i 0 = 46
      · rw [if_pos h46, decide_eq_true (Or.inl h46)]
      · rw [if_neg h46]
        by_cases hxy : fl.getD i 0 = v.getD (p + (i - a)) 0
        · rw [if_pos hxy, decide_eq_true (Or.inr hxy)]
        · rw [if_neg hxy, decide_eq_false (fun hh => hh.elim h46 hxy)]
    rw [hcnd]
    simp only [Option.bind_some]
    by_cases hh : fl.getD i 0 = 46 ∨ fl.getD i 0 = v.getD (p + (i - a)) 0
    · rw [if_pos (decide_eq_true hh), if_pos hh, show (i : Int) + 1 = ((i + 1 : Nat) : Int) by omega, ih (i + 1) n (by omega) (by omega) (by omega), show p + (i + 1 - a) = p + (i - a) + 1 by omega]
    · rw [if_neg (by rw [decide_eq_false hh]; decide), if_neg hh]
      rfl
theorem stands_loop (F : Nat) {r : ZR} {fl v : List Int} (hfl : fl.length ≤ 96) (hL : zlw fl) (hR : zRA r 20 0 fl) (hS : zSrc r v) (a b : Nat) (hb : b ≤ fl.length) (p : Nat) (hp : p + (b - a) ≤ v.length) : ∀ (j i n : Nat), i + j = b → a ≤ i → j < n → r_stands_3 F n r (a : Int) (b : Int) (p : Int) (i : Int) = some (zB (zft fl v b j i (p + (i - a)))) := by
  have hv := hS.2.1
  intro j
  induction j with
  | zero =>
    intro i n hi ha hn
    obtain ⟨n, rfl⟩ : ∃ n', n = n' + 1 := ⟨n - 1, by omega⟩
    rw [r_stands_3, if_pos (by rw [zI_le (by omega) (by omega) (by omega) (by omega)]; omega)]
    rfl
  | succ j ih =>
    intro i n hi ha hn
    obtain ⟨n, rfl⟩ : ∃ n', n = n' + 1 := ⟨n - 1, by omega⟩
    have hx := zlw_get hL i (by omega)
    have hy : zOk (v.getD (p + (i - a)) 0) := hS.2.2.1 _ (by rw [zgE v (p + (i - a)) (by omega)]; exact List.getElem_mem _)
    unfold zOk at hy
    have e1 := hR i (by omega)
    have e2 := hS.2.2.2.1 (p + (i - a)) (by omega)
    rw [Nat.zero_add] at e1 e2
    rw [r_stands_3, if_neg (by rw [zI_le (by omega) (by omega) (by omega) (by omega)]; omega), if_pos (show zix (i : Int) 200 from ⟨by omega, by omega, by omega⟩), if_pos (show zix ((p : Int) + (i : Int) - (a : Int)) 160 from ⟨by omega, by omega, by omega⟩)]
    rw [Int.toNat_natCast, show ((p : Int) + (i : Int) - (a : Int)).toNat = p + (i - a) by omega, e1, e2, zft, if_neg (show ¬ b ≤ i by omega)]
    have hcnd : (if zI (fl.getD i 0) = zI 46 then some true else if zI (fl.getD i 0) = zI (v.getD (p + (i - a)) 0) then some true else some false) = some (decide (fl.getD i 0 = 46 ∨ fl.getD i 0 = v.getD (p + (i - a)) 0)) := by
      simp only [zI_eq (a := fl.getD i 0) (b := 46) (by omega) (by omega) (by omega) (by omega), zI_eq (a := fl.getD i 0) (b := v.getD (p + (i - a)) 0) (by omega) (by omega) (by omega) (by omega)]
      by_cases h46 : fl.getD i 0 = 46
      · rw [if_pos h46, decide_eq_true (Or.inl h46)]
      · rw [if_neg h46]
        by_cases hxy : fl.getD i 0 = v.getD (p + (i - a)) 0
        · rw [if_pos hxy, decide_eq_true (Or.inr hxy)]
        · rw [if_neg hxy, decide_eq_false (fun hh => hh.elim h46 hxy)]
    rw [hcnd]
    simp only [Option.bind_some]
    by_cases hh : fl.getD i 0 = 46 ∨ fl.getD i 0 = v.getD (p + (i - a)) 0
    · rw [if_pos (decide_eq_true hh), if_pos hh, show (i : Int) + 1 = ((i + 1 : Nat) : Int) by omega, ih (i + 1) n (by omega) (by omega) (by omega), show p + (i + 1 - a) = p + (i - a) + 1 by omega]
    · rw [if_neg (by rw [decide_eq_false hh]; decide), if_neg hh]
      rfl
/-- the pattern's bare letters a .. b; it fits at p -/
def zfp (fl v : List Int) (a b p : Nat) : Bool := zft fl v b (b - a) a p
/-- the line from s to e is hit: begins (^), ends ($) -/
def zhit (fl v : List Int) (a b : Nat) (bg en : Bool) (s e : Nat) : Prop := ∃ p : Nat, s ≤ p ∧ p + (b - a) ≤ e ∧ (bg = true → p = s) ∧ (en = true → p + (b - a) = e) ∧ zfp fl v a b p = true
theorem fits_is (F : Nat) (hF : 110 ≤ F) {u : ZC} {fl v : List Int} (hfl : fl.length ≤ 96) (hL : zlw fl) (hT : zT u 1 fl) (hN : cN u 1 = 96) (src : Nat) (hls : zlT u src) (hS : zT u src v) (hv : v.length ≤ 160) (a b : Nat) (hab : a ≤ b) (hb : b ≤ fl.length) (p : Nat) (hp : p + (b - a) ≤ v.length) : cTools_fits F u src (p : Int) (a : Int) (b : Int) = some (zB (zfp fl v a b p)) := by
  have := fits_loop F hfl hL hT hN src hls hS hv a b hb p hp (b - a) a F (by omega) (Nat.le_refl _) (by omega)
  rw [Nat.sub_self, Nat.add_zero] at this
  exact this
theorem stands_is (F : Nat) (hF : 110 ≤ F) {r : ZR} {fl v : List Int} (hfl : fl.length ≤ 96) (hL : zlw fl) (hR : zRA r 20 0 fl) (hS : zSrc r v) (a b : Nat) (hab : a ≤ b) (hb : b ≤ fl.length) (p : Nat) (hp : p + (b - a) ≤ v.length) : r_stands F r (a : Int) (b : Int) (p : Int) = some (zB (zfp fl v a b p)) := by
  have := stands_loop F hfl hL hR hS a b hb p hp (b - a) a F (by omega) (Nat.le_refl _) (by omega)
  rw [Nat.sub_self, Nat.add_zero] at this
  exact this
/-- the class's loop over the places -/
theorem match_loop (F : Nat) (hF : 170 ≤ F) {u : ZC} {fl v : List Int} (hfl : fl.length ≤ 96) (hL : zlw fl) (hT : zT u 1 fl) (hN : cN u 1 = 96) (src : Nat) (hls : zlT u src) (hS : zT u src v) (hv : v.length ≤ 160) (a b : Nat) (hab : a ≤ b) (hb : b ≤ fl.length) (hi : Int) (hhi : hi + ((b : Int) - (a : Int)) ≤ v.length) (hlo : -200 ≤ hi) : ∀ (j p n : Nat), hi < (p : Int) + j → p ≤ 170 → j < n → ∃ x : Bool, cTools_matches_162 F n u src (a : Int) (b : Int) hi (p : Int) = some (zB x) ∧ (x = true ↔ ∃ q : Nat, p ≤ q ∧ (q : Int) ≤ hi ∧ zfp fl v a b q = true) := by
  intro j
  induction j with
  | zero =>
    intro p n hj hp hn
    obtain ⟨n, rfl⟩ : ∃ n', n = n' + 1 := ⟨n - 1, by omega⟩
    refine ⟨false, ?_, ⟨fun h => (by cases h), fun ⟨q, h1, h2, _⟩ => by omega⟩⟩
    rw [cTools_matches_162, if_pos (by rw [zI_lt (by omega) (by omega) (by omega) (by omega)]; omega)]
    rfl
  | succ j ih =>
    intro p n hj hp hn
    obtain ⟨n, rfl⟩ : ∃ n', n = n' + 1 := ⟨n - 1, by omega⟩
    by_cases hph : hi < (p : Int)
    · refine ⟨false, ?_, ⟨fun h => (by cases h), fun ⟨q, h1, h2, _⟩ => by omega⟩⟩
      rw [cTools_matches_162, if_pos (by rw [zI_lt (by omega) (by omega) (by omega) (by omega)]; omega)]
      rfl
    · rw [cTools_matches_162, if_neg (by rw [zI_lt (by omega) (by omega) (by omega) (by omega)]; omega), fits_is F (by omega) hfl hL hT hN src hls hS hv a b hab hb p (by omega)]
      simp only [Option.bind_some]
      cases hz : zfp fl v a b p
      · rw [zB_f, if_pos z00, show (p : Int) + 1 = ((p + 1 : Nat) : Int) by omega]
        obtain ⟨x, c1, c2⟩ := ih (p + 1) n (by omega) (by omega) (by omega)
        refine ⟨x, c1, c2.trans ⟨fun ⟨q, h1, h2, h3⟩ => ⟨q, by omega, h2, h3⟩, fun ⟨q, h1, h2, h3⟩ => ⟨q, ?_, h2, h3⟩⟩⟩
        by_cases hqp : q = p
        · rw [hqp, hz] at h3; cases h3
        · omega
      · rw [zB_t, if_neg z10]
        exact ⟨true, rfl, ⟨fun _ => ⟨p, Nat.le_refl _, by omega, hz⟩, fun _ => rfl⟩⟩
/-- the pattern: where its bare letters lie, and its marks -/
def zpt (fl : List Int) (s e : Nat) : Nat × Nat × Bool × Bool :=
  let bg := decide (s < e ∧ fl.getD s 0 = 94)
  let a := if bg = true then s + 1 else s
  let en := decide (a < e ∧ fl.getD (e - 1) 0 = 36)
  (a, if en = true then e - 1 else e, bg, en)
theorem zpt_in (fl : List Int) (s e : Nat) (h : s ≤ e) : s ≤ (zpt fl s e).1 ∧ (zpt fl s e).1 ≤ (zpt fl s e).2.1 ∧ (zpt fl s e).2.1 ≤ e := by
  unfold zpt
  simp only
  by_cases h1 : s < e ∧ fl.getD s 0 = 94
  · rw [decide_eq_true h1]
    simp only [if_true]
    by_cases h2 : s + 1 < e ∧ fl.getD (e - 1) 0 = 36
    · rw [decide_eq_true h2]
      simp only [if_true]
      omega
    · rw [decide_eq_false h2]
      simp only [reduceCtorEq, if_false]
      omega
  · rw [decide_eq_false h1]
    simp only [reduceCtorEq, if_false]
    by_cases h2 : s < e ∧ fl.getD (e - 1) 0 = 36
    · rw [decide_eq_true h2]
      simp only [if_true]
      omega
    · rw [decide_eq_false h2]
      simp only [reduceCtorEq, if_false]
      omega
theorem zmin_is {a b : Int} (h : -2147483648 ≤ a) (h2 : a < 2147483648) (h3 : -2147483648 ≤ b) (h4 : b < 2147483648) : zmin a b = if b < a then b else a := by
  unfold zmin
  simp only [zI_lt h3 h4 h h2]
theorem matches_is (F : Nat) (hF : 200 ≤ F) {u : ZC} {ws : List (List Int)} {v : List Int} (hl : zwl ws) (HW : zW u ws) (k : Nat) (hk : k < ws.length) (src : Nat) (hls : zlT u src) (hS : zT u src v) (hv : v.length ≤ 160) (s e : Nat) (hse : s ≤ e) (he : e ≤ v.length) :
    ∃ x : Bool, cTools_matches F u src (s : Int) (e : Int) (k : Int) = some (zB x) ∧ (x = true ↔ zhit ws.flatten v (zpt ws.flatten (zst ws k) (zst ws (k + 1))).1 (zpt ws.flatten (zst ws k) (zst ws (k + 1))).2.1 (zpt ws.flatten (zst ws k) (zst ws (k + 1))).2.2.1 (zpt ws.flatten (zst ws k) (zst ws (k + 1))).2.2.2 s e) := by
  have hT := zW_T HW
  have hN := HW.2.2.1
  have hfl := HW.2.2.2.1.1
  have hL := zwl_flat hl
  have hw64 := HW.2.1
  obtain ⟨m1, m2, -⟩ := zst_mono ws k hk
  obtain ⟨i1, i2, i3⟩ := zpt_in ws.flatten (zst ws k) (zst ws (k + 1)) m1
  unfold cTools_matches
  rw [startOf_is F HW k (by omega), endOf_is F HW k (by omega), if_pos (show k ≤ ws.length by omega), if_pos hk]
  simp only [Option.bind_some]
  generalize hS0 : zst ws k = p1 at *
  generalize hS1 : zst ws (k + 1) = p2 at *
  generalize ws.flatten = fl at *
  have hb3 : (Option.bind (if zI (p2 : Int) ≤ zI (p1 : Int) then some true else if zix (p1 : Int) (cN u 1) then (if ¬ zI (cA u 0 1 (p1 : Int).toNat) = zI 94 then some true else some false) else none) fun (b3 : Bool) => if b3 = true then some (0 : Int) else some 1) = some (zB (zpt fl p1 p2).2.2.1) := by
    show _ = some (zB (decide (p1 < p2 ∧ fl.getD p1 0 = 94)))
    by_cases h1 : p1 < p2
    · have hx := zlw_get hL p1 (by omega)
      rw [if_neg (by rw [zI_le (by omega) (by omega) (by omega) (by omega)]; omega), if_pos (show zix (p1 : Int) (cN u 1) from ⟨by omega, by omega, by omega⟩), Int.toNat_natCast, hT.2.2.1 p1 (by omega)]
      by_cases h94 : fl.getD p1 0 = 94
      · rw [h94, decide_eq_true ⟨h1, rfl⟩]
        rfl
      · rw [if_pos (by rw [zI_eq (by omega) (by omega) (by omega) (by omega)]; exact h94), decide_eq_false (fun hh => h94 hh.2)]
        rfl
    · rw [if_pos (by rw [zI_le (by omega) (by omega) (by omega) (by omega)]; omega), decide_eq_false (fun hh => h1 hh.1)]
      rfl
  rw [hb3]
  simp only [Option.bind_some]
  have hx5 : (if zI (zB (zpt fl p1 p2).2.2.1) = 0 then some (0 : Int) else some 1) = some (zB (zpt fl p1 p2).2.2.1) := by
    cases (zpt fl p1 p2).2.2.1
    · rfl
    · rfl
  rw [hx5]
  simp only [Option.bind_some]
  have e1 : (p1 : Int) + zB (zpt fl p1 p2).2.2.1 = ((zpt fl p1 p2).1 : Int) := by
    show (p1 : Int) + zB (decide (p1 < p2 ∧ fl.getD p1 0 = 94)) = ((if decide (p1 < p2 ∧ fl.getD p1 0 = 94) = true then p1 + 1 else p1 : Nat) : Int)
    cases decide (p1 < p2 ∧ fl.getD p1 0 = 94)
    · simp [zB]
    · simp [zB]
  rw [e1]
  have hb6 : (Option.bind (if zI (p2 : Int) ≤ zI ((zpt fl p1 p2).1 : Int) then some true else if zix ((p2 : Int) - 1) (cN u 1) then (if ¬ zI (cA u 0 1 ((p2 : Int) - 1).toNat) = zI 36 then some true else some false) else none) fun (b6 : Bool) => if b6 = true then some (0 : Int) else some 1) = some (zB (zpt fl p1 p2).2.2.2) := by
    show _ = some (zB (decide ((zpt fl p1 p2).1 < p2 ∧ fl.getD (p2 - 1) 0 = 36)))
    by_cases h1 : (zpt fl p1 p2).1 < p2
    · have hx := zlw_get hL (p2 - 1) (by omega)
      rw [if_neg (by rw [zI_le (by omega) (by omega) (by omega) (by omega)]; omega), if_pos (show zix ((p2 : Int) - 1) (cN u 1) from ⟨by omega, by omega, by omega⟩), show ((p2 : Int) - 1).toNat = p2 - 1 by omega, hT.2.2.1 (p2 - 1) (by omega)]
      by_cases h36 : fl.getD (p2 - 1) 0 = 36
      · rw [h36, decide_eq_true ⟨h1, rfl⟩]
        rfl
      · rw [if_pos (by rw [zI_eq (by omega) (by omega) (by omega) (by omega)]; exact h36), decide_eq_false (fun hh => h36 hh.2)]
        rfl
    · rw [if_pos (by rw [zI_le (by omega) (by omega) (by omega) (by omega)]; omega), decide_eq_false (fun hh => h1 hh.1)]
      rfl
  rw [hb6]
  simp only [Option.bind_some]
  have hx8 : (if zI (zB (zpt fl p1 p2).2.2.2) = 0 then some (0 : Int) else some 1) = some (zB (zpt fl p1 p2).2.2.2) := by
    cases (zpt fl p1 p2).2.2.2
    · rfl
    · rfl
  rw [hx8]
  simp only [Option.bind_some]
  have e2 : (p2 : Int) - zB (zpt fl p1 p2).2.2.2 = ((zpt fl p1 p2).2.1 : Int) := by
    have hpos : (zpt fl p1 p2).2.2.2 = true → 1 ≤ p2 := by
      intro hh
      have : decide ((zpt fl p1 p2).1 < p2 ∧ fl.getD (p2 - 1) 0 = 36) = true := hh
      have := of_decide_eq_true this
      omega
    have hdef : (zpt fl p1 p2).2.1 = if (zpt fl p1 p2).2.2.2 = true then p2 - 1 else p2 := rfl
    rw [hdef]
    cases hh : (zpt fl p1 p2).2.2.2
    · simp [zB]
    · have := hpos hh
      simp only [zB, if_true]
      omega
  rw [e2]
  generalize (zpt fl p1 p2).1 = a at *
  generalize (zpt fl p1 p2).2.1 = b at *
  generalize (zpt fl p1 p2).2.2.1 = bg at *
  generalize (zpt fl p1 p2).2.2.2 = en at *
  have hlow : ∃ low : Nat, (if zI (zB en) = 0 then some (s : Int) else some (zmax (s : Int) ((e : Int) - ((b : Int) - (a : Int))))) = some (low : Int) ∧ (low : Int) = (if en = true ∧ (s : Int) < (e : Int) - ((b : Int) - (a : Int)) then (e : Int) - ((b : Int) - (a : Int)) else (s : Int)) ∧ low ≤ 170 := by
    cases en
    · exact ⟨s, rfl, by simp, by omega⟩
    · rw [zB_t, if_neg z10, zmax_is (by omega) (by omega) (by omega) (by omega)]
      by_cases hlt : (s : Int) < (e : Int) - ((b : Int) - (a : Int))
      · exact ⟨e - (b - a), by rw [if_pos hlt]; congr 1; omega, by rw [if_pos ⟨rfl, hlt⟩]; omega, by omega⟩
      · exact ⟨s, by rw [if_neg hlt], by rw [if_neg (fun hh => hlt hh.2)], by omega⟩
  obtain ⟨low, l1, l2, l3⟩ := hlow
  rw [l1]
  simp only [Option.bind_some]
  have hhigh : ∃ hi : Int, (if zI (zB bg) = 0 then some ((e : Int) - ((b : Int) - (a : Int))) else some (zmin (s : Int) ((e : Int) - ((b : Int) - (a : Int))))) = some hi ∧ hi = (if bg = true ∧ (s : Int) < (e : Int) - ((b : Int) - (a : Int)) then (s : Int) else (e : Int) - ((b : Int) - (a : Int))) := by
    cases bg
    · exact ⟨_, rfl, by simp⟩
    · rw [zB_t, if_neg z10, zmin_is (by omega) (by omega) (by omega) (by omega)]
      by_cases hlt : (s : Int) < (e : Int) - ((b : Int) - (a : Int))
      · exact ⟨s, by rw [if_neg (by omega)], by rw [if_pos ⟨rfl, hlt⟩]⟩
      · refine ⟨(e : Int) - ((b : Int) - (a : Int)), ?_, by rw [if_neg (fun hh => hlt hh.2)]⟩
        by_cases heq : (e : Int) - ((b : Int) - (a : Int)) < (s : Int)
        · rw [if_pos heq]
        · rw [if_neg heq]; congr 1; omega
  obtain ⟨hi, g1, g2⟩ := hhigh
  rw [g1]
  simp only [Option.bind_some]
  have hhi1 : hi ≤ (e : Int) - ((b : Int) - (a : Int)) := by rw [g2]; split <;> omega
  obtain ⟨x, c1, c2⟩ := match_loop F (by omega) hfl hL hT hN src hls hS hv a b (by omega) (by omega) hi (by omega) (by rw [g2]; split <;> omega) 171 low F (by omega) l3 (by omega)
  refine ⟨x, c1, c2.trans ⟨fun ⟨q, h1, h2, h3⟩ => ⟨q, ?_, by omega, fun hb => ?_, fun hn => ?_, h3⟩, fun ⟨q, h1, h2, h3, h4, h5⟩ => ⟨q, ?_, ?_, h5⟩⟩⟩
  · split at l2 <;> omega
  · rw [hb] at g2
    by_cases hlt : (s : Int) < (e : Int) - ((b : Int) - (a : Int))
    · rw [if_pos ⟨rfl, hlt⟩] at g2
      split at l2 <;> omega
    · split at l2 <;> omega
  · rw [hn] at l2
    by_cases hlt : (s : Int) < (e : Int) - ((b : Int) - (a : Int))
    · rw [if_pos ⟨rfl, hlt⟩] at l2
      omega
    · rw [if_neg (fun hh => hlt hh.2)] at l2
      omega
  · by_cases hcc : en = true ∧ (s : Int) < (e : Int) - ((b : Int) - (a : Int))
    · rw [if_pos hcc] at l2
      have := h4 hcc.1
      omega
    · rw [if_neg hcc] at l2
      omega
  · by_cases hcc : bg = true ∧ (s : Int) < (e : Int) - ((b : Int) - (a : Int))
    · rw [if_pos hcc] at g2
      have := h3 hcc.1
      omega
    · rw [if_neg hcc] at g2
      omega
