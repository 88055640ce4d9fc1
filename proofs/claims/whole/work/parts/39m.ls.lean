/-! ls -/
/-- node x lies in directory d behind the name m -/
def zQ (u : ZC) (d : Nat) (m : Int) (x : Nat) : Prop := cP u 5 x = some d ∧ m < (cJ u 0 x).toInt
def zNx (u : ZC) (c d : Nat) (m : Int) (o : Option Nat) : Prop := (o = none ∧ ∀ x, 1 ≤ x → x ≤ c → ¬ zQ u d m x) ∨ ∃ x, o = some x ∧ 1 ≤ x ∧ x ≤ c ∧ zQ u d m x ∧ ∀ y, 1 ≤ y → y ≤ c → zQ u d m y → (cJ u 0 x).toInt ≤ (cJ u 0 y).toInt
theorem zNx_u {u : ZC} {r : ZR} {c h d : Nat} {m : Int} {o o2 : Option Nat} (HT : zTree u r c h) (h1 : zNx u c d m o) (h2 : zNx u c d m o2) : o = o2 := by
  have hu := HT.2.2.2.2.2.2.2.2.2.2.2.1
  rcases h1 with ⟨e, hh⟩ | ⟨x, e, x1, x2, x3, x4⟩
  · rcases h2 with ⟨f, -⟩ | ⟨y, f, y1, y2, y3, y4⟩
    · rw [e, f]
    · exact absurd y3 (hh y y1 y2)
  · rcases h2 with ⟨f, hh⟩ | ⟨y, f, y1, y2, y3, y4⟩
    · exact absurd x3 (hh x x1 x2)
    · have hn : (cJ u 0 x).toInt = (cJ u 0 y).toInt := by
        have := x4 y y1 y2 y3
        have := y4 x x1 x2 x3
        omega
      have hn2 : cJ u 0 x = cJ u 0 y := Int64.toInt_inj.1 hn
      have hp : cP u 5 x = cP u 5 y := by rw [x3.1, y3.1]
      have : x = y := by
        apply Classical.byContradiction
        intro hne
        by_cases hlt : x < y
        · exact hu x y x1 hlt y2 ⟨hp, hn2⟩
        · exact hu y x y1 (by omega) x2 ⟨hp.symm, hn2.symm⟩
      rw [e, f, this]
theorem nx_loop (F : Nat) {u : ZC} {r : ZR} {c h : Nat} (H : zTree u r c h) (d : Nat) (hd : d ≤ c) (nm : Int64) : ∀ (k n : Nat) (acc : Option Nat), k ≤ c → k + 1 < n → ((acc = none ∧ ∀ x, k < x → x ≤ c → ¬ zQ u d nm.toInt x) ∨ ∃ y, acc = some y ∧ k < y ∧ y ≤ c ∧ zQ u d nm.toInt y ∧ ∀ x, k < x → x ≤ c → zQ u d nm.toInt x → (cJ u 0 y).toInt ≤ (cJ u 0 x).toInt) →
    ∃ o, zNx u c d nm.toInt o ∧ cTree_nextIn_9 F n u d nm acc (some k) = some o := by
  have hlive : ∀ n, n ≤ c → zlN u n := fun n hn => zlN_of H hn
  have hlO : ∀ n, n ≤ c → zlO u (some n) := fun n hn => by
    show (decide (zlN u n)) = true
    exact decide_eq_true (hlive n hn)
  intro k
  induction k with
  | zero =>
    intro n acc hk hn hinv
    obtain ⟨n, rfl⟩ : ∃ n', n = n' + 1 := ⟨n - 1, by omega⟩
    obtain ⟨n, rfl⟩ : ∃ n', n = n' + 1 := ⟨n - 1, by omega⟩
    have hr := H.2.2.2.2.2.2.2.2.1
    refine ⟨acc, ?_, ?_⟩
    · rcases hinv with ⟨e, hh⟩ | ⟨x, e, x1, x2, x3, x4⟩
      · exact Or.inl ⟨e, fun x h1 h2 => hh x h1 h2⟩
      · exact Or.inr ⟨x, e, x1, x2, x3, fun y h1 h2 => x4 y h1 h2⟩
    · have hl0 : zlO u (none : Option Nat) := rfl
      rw [cTree_nextIn_9]
      simp only [Option.elim_some, if_pos (hlive 0 (Nat.zero_le _)), Option.bind_some, hr.1, if_pos hl0, if_pos (hlO d hd)]
      rw [if_pos (show ¬ (none = some d) from fun h => by cases h)]
      simp only [Option.bind_some, if_true, hr.2.2.1]
      rw [cTree_nextIn_9]
      rfl
  | succ k ih =>
    intro n acc hk hn hinv
    obtain ⟨n, rfl⟩ : ∃ n', n = n' + 1 := ⟨n - 1, by omega⟩
    obtain ⟨⟨p, hp, f1, f2, -⟩, f3, f4, -⟩ := H.2.2.2.2.2.2.2.2.2.1 (k + 1) (by omega) hk
    rw [cTree_nextIn_9]
    simp only [Option.elim_some, if_pos (hlive (k + 1) hk), Option.bind_some, f1, if_pos (hlO p (by omega)), if_pos (hlO d hd), f3, Nat.add_sub_cancel]
    by_cases hq : zQ u d nm.toInt (k + 1)
    · obtain ⟨q1, q2⟩ := hq
      have hpd : p = d := by rw [f1] at q1; exact Option.some.inj q1
      have hnle : ¬ cJ u 0 (k + 1) ≤ nm := by rw [Int64.le_iff_toInt_le]; omega
      rw [if_neg (not_not_intro (by rw [hpd])), if_neg hnle]
      rcases hinv with ⟨e, hh⟩ | ⟨y, e, y1, y2, y3, y4⟩
      · rw [e]
        simp only [Option.elim_none, Option.bind_some, reduceCtorEq, if_false]
        refine ih n (some (k + 1)) (by omega) (by omega) (Or.inr ⟨k + 1, rfl, by omega, hk, ⟨q1, q2⟩, fun x h1 h2 h3 => ?_⟩)
        by_cases hx : x = k + 1
        · rw [hx]; exact Int.le_refl _
        · exact absurd h3 (hh x (by omega) h2)
      · rw [e]
        simp only [Option.elim_some, if_pos (hlive y y2)]
        by_cases hle : cJ u 0 y ≤ cJ u 0 (k + 1)
        · have hle' := Int64.le_iff_toInt_le.1 hle
          simp only [if_pos hle, Option.bind_some, if_true]
          refine ih n (some y) (by omega) (by omega) (Or.inr ⟨y, rfl, by omega, y2, y3, fun x h1 h2 h3 => ?_⟩)
          by_cases hx : x = k + 1
          · rw [hx]; exact hle'
          · exact y4 x (by omega) h2 h3
        · have hle' : ¬ (cJ u 0 y).toInt ≤ (cJ u 0 (k + 1)).toInt := fun hh => hle (Int64.le_iff_toInt_le.2 hh)
          simp only [if_neg hle, Option.bind_some, reduceCtorEq, if_false]
          refine ih n (some (k + 1)) (by omega) (by omega) (Or.inr ⟨k + 1, rfl, by omega, hk, ⟨q1, q2⟩, fun x h1 h2 h3 => ?_⟩)
          by_cases hx : x = k + 1
          · rw [hx]; exact Int.le_refl _
          · have := y4 x (by omega) h2 h3
            omega
    · have hskip : (if ¬ (some p = some d) then some true else if cJ u 0 (k + 1) ≤ nm then some true else Option.elim acc (some false) fun (n4 : Nat) => if zlN u n4 then (if cJ u 0 n4 ≤ cJ u 0 (k + 1) then some true else some false) else none) = some true := by
        by_cases hpd : p = d
        · rw [if_neg (not_not_intro (by rw [hpd])), if_pos]
          rw [Int64.le_iff_toInt_le]
          apply Classical.byContradiction
          intro hh
          exact hq ⟨by rw [f1, hpd], by omega⟩
        · rw [if_pos (fun h => hpd (Option.some.inj h))]
      rw [hskip]
      simp only [Option.bind_some, if_true]
      refine ih n acc (by omega) (by omega) ?_
      rcases hinv with ⟨e, hh⟩ | ⟨y, e, y1, y2, y3, y4⟩
      · refine Or.inl ⟨e, fun x h1 h2 => ?_⟩
        by_cases hx : x = k + 1
        · rw [hx]; exact hq
        · exact hh x (by omega) h2
      · refine Or.inr ⟨y, e, by omega, y2, y3, fun x h1 h2 h3 => ?_⟩
        by_cases hx : x = k + 1
        · rw [hx] at h3; exact absurd h3 hq
        · exact y4 x (by omega) h2 h3
theorem nextIn_is (F : Nat) (hF : 20 ≤ F) {u : ZC} {r : ZR} {c h : Nat} (H : zTree u r c h) (d : Nat) (hd : d ≤ c) (nm : Int64) : ∃ o, zNx u c d nm.toInt o ∧ cTree_nextIn F u d nm = some o := by
  have hc12 := H.1
  obtain ⟨o, c1, c2⟩ := nx_loop F H d hd nm c F none (Nat.le_refl _) (by omega) (Or.inl ⟨rfl, fun x h1 h2 => by omega⟩)
  refine ⟨o, c1, ?_⟩
  unfold cTree_nextIn
  rw [H.2.2.1]
  exact c2
/-- the reference finds the same -/
theorem rls_loop (F : Nat) (K : ZR → Int64 → Int → Option (Int × ZR)) {u : ZC} {r : ZR} {c h : Nat} (H : zTree u r c h) (d : Nat) (hd : d ≤ c) (h42 : rI r 42 = (d : Int)) (nm : Int64) (turn : Int) : ∀ (j x n : Nat) (acc : Option Nat), j + x = 13 → 1 ≤ x → j < n → ((acc = none ∧ ∀ y, 1 ≤ y → y < x → y ≤ c → ¬ zQ u d nm.toInt y) ∨ ∃ y, acc = some y ∧ 1 ≤ y ∧ y < x ∧ y ≤ c ∧ zQ u d nm.toInt y ∧ ∀ z, 1 ≤ z → z < x → z ≤ c → zQ u d nm.toInt z → (cJ u 0 y).toInt ≤ (cJ u 0 z).toInt) →
    ∃ o, zNx u c d nm.toInt o ∧ ∃ n2, r_ls_89 F K n r nm turn (zo acc) (x : Int) = r_ls_89 F K (n2 + 1) r nm turn (zo o) 13 := by
  have hc12 := H.1
  intro j
  induction j with
  | zero =>
    intro x n acc hx h1 hn hinv
    obtain ⟨n, rfl⟩ : ∃ n', n = n' + 1 := ⟨n - 1, by omega⟩
    have : x = 13 := by omega
    subst this
    refine ⟨acc, ?_, n, rfl⟩
    rcases hinv with ⟨e, hh⟩ | ⟨y, e, y1, y2, y3, y4, y5⟩
    · exact Or.inl ⟨e, fun y g1 g2 => hh y g1 (by omega) g2⟩
    · exact Or.inr ⟨y, e, y1, y3, y4, fun z g1 g2 => y5 z g1 (by omega) g2⟩
  | succ j ih =>
    intro x n acc hx h1 hn hinv
    obtain ⟨n, rfl⟩ : ∃ n', n = n' + 1 := ⟨n - 1, by omega⟩
    have hz : zix (x : Int) 13 := ⟨by omega, by omega, by omega⟩
    have h3 := H.2.2.2.2.2.2.2.1 x (by omega)
    rw [r_ls_89, if_neg (by rw [zI_le (by omega) (by omega) (by omega) (by omega)]; omega), if_pos hz]
    simp only [Int.toNat_natCast, h3, h42]
    have hnode : x ≤ c → ∃ p : Nat, p < x ∧ cP u 5 x = some p ∧ rA r 5 x = (p : Int) ∧ cJ u 0 x = rL r 6 x := by
      intro hxc
      obtain ⟨⟨p, hp, e1, e2, -⟩, -, e3, -⟩ := H.2.2.2.2.2.2.2.2.2.1 x h1 hxc
      exact ⟨p, hp, e1, e2, e3⟩
    have hx12 : (Option.bind (if zI (if x ≤ c then (1 : Int) else 0) = 0 then some true else if ¬ zI (rA r 5 x) = zI (d : Int) then some true else if rL r 6 x ≤ nm then some true else some false) fun (b11 : Bool) => if b11 = true then some (0 : Int) else some 1) = some (zB (decide (x ≤ c ∧ ∃ p, cP u 5 x = some p ∧ p = d ∧ nm.toInt < (cJ u 0 x).toInt))) := by
      by_cases hxc : x ≤ c
      · obtain ⟨p, hp, e1, e2, e3⟩ := hnode hxc
        rw [if_pos hxc, if_neg z10, e2]
        by_cases hpd : p = d
        · rw [hpd, if_neg (not_not_intro rfl)]
          by_cases hle : rL r 6 x ≤ nm
          · have := Int64.le_iff_toInt_le.1 hle
            rw [if_pos hle, decide_eq_false]
            · rfl
            · rintro ⟨-, p', -, -, hh⟩
              rw [e3] at hh
              omega
          · have hle' : ¬ (rL r 6 x).toInt ≤ nm.toInt := fun hh => hle (Int64.le_iff_toInt_le.2 hh)
            rw [if_neg hle, decide_eq_true]
            · rfl
            · exact ⟨hxc, p, e1, hpd, by rw [e3]; omega⟩
        · rw [if_pos (by rw [zI_eq (by omega) (by omega) (by omega) (by omega)]; omega), decide_eq_false]
          · rfl
          · rintro ⟨-, p', q1, q2, -⟩
            rw [e1] at q1
            exact hpd ((Option.some.inj q1).trans q2)
      · rw [if_neg hxc, if_pos z00, decide_eq_false (fun hh => hxc hh.1)]
        rfl
    rw [hx12]
    simp only [Option.bind_some]
    rw [show (x : Int) + 1 = ((x + 1 : Nat) : Int) by omega]
    by_cases hin : x ≤ c ∧ ∃ p, cP u 5 x = some p ∧ p = d ∧ nm.toInt < (cJ u 0 x).toInt
    · obtain ⟨hxc, p', q1, q2, q3⟩ := hin
      have hQ : zQ u d nm.toInt x := ⟨by rw [q1, q2], q3⟩
      obtain ⟨p, hp, e1, e2, e3⟩ := hnode hxc
      rw [decide_eq_true ⟨hxc, p', q1, q2, q3⟩, zB_t, if_neg z10]
      rcases hinv with ⟨e, hh⟩ | ⟨y, e, y1, y2, y3, y4, y5⟩
      · rw [e, show zo none = -1 from rfl, if_pos (by decide)]
        simp only [Option.bind_some, reduceCtorEq, if_false]
        refine ih (x + 1) n (some x) (by omega) (by omega) (by omega) (Or.inr ⟨x, rfl, h1, by omega, hxc, hQ, fun z g1 g2 g3 g4 => ?_⟩)
        by_cases hzx : z = x
        · rw [hzx]; exact Int.le_refl _
        · exact absurd g4 (hh z g1 (by omega) g3)
      · have e3y : cJ u 0 y = rL r 6 y := (H.2.2.2.2.2.2.2.2.2.1 y y1 y3).2.2.1
        rw [e, show zo (some y) = (y : Int) from rfl, if_neg (by rw [zI_lt0 (by omega) (by omega)]; omega), if_pos (show zix (y : Int) 13 from ⟨by omega, by omega, by omega⟩), Int.toNat_natCast]
        by_cases hle : rL r 6 y ≤ rL r 6 x
        · have hle' := Int64.le_iff_toInt_le.1 hle
          simp only [if_pos hle, Option.bind_some, if_true]
          refine ih (x + 1) n (some y) (by omega) (by omega) (by omega) (Or.inr ⟨y, rfl, y1, by omega, y3, y4, fun z g1 g2 g3 g4 => ?_⟩)
          by_cases hzx : z = x
          · rw [hzx, e3y, e3]; exact hle'
          · exact y5 z g1 (by omega) g3 g4
        · have hle' : ¬ (rL r 6 y).toInt ≤ (rL r 6 x).toInt := fun hh => hle (Int64.le_iff_toInt_le.2 hh)
          simp only [if_neg hle, Option.bind_some, reduceCtorEq, if_false]
          refine ih (x + 1) n (some x) (by omega) (by omega) (by omega) (Or.inr ⟨x, rfl, h1, by omega, hxc, hQ, fun z g1 g2 g3 g4 => ?_⟩)
          by_cases hzx : z = x
          · rw [hzx]; exact Int.le_refl _
          · have := y5 z g1 (by omega) g3 g4
            rw [e3y] at this
            rw [e3]
            omega
    · have hnQ : x ≤ c → ¬ zQ u d nm.toInt x := fun hxc hq => hin ⟨hxc, d, hq.1, rfl, hq.2⟩
      rw [decide_eq_false hin, zB_f, if_pos z00]
      simp only [Option.bind_some, if_true]
      refine ih (x + 1) n acc (by omega) (by omega) (by omega) ?_
      rcases hinv with ⟨e, hh⟩ | ⟨y, e, y1, y2, y3, y4, y5⟩
      · refine Or.inl ⟨e, fun z g1 g2 g3 => ?_⟩
        by_cases hzx : z = x
        · rw [hzx]; exact hnQ (by omega)
        · exact hh z g1 (by omega) g3
      · refine Or.inr ⟨y, e, y1, by omega, y3, y4, fun z g1 g2 g3 g4 => ?_⟩
        by_cases hzx : z = x
        · rw [hzx] at g4; exact absurd g4 (hnQ (by omega))
        · exact y5 z g1 (by omega) g3 g4
