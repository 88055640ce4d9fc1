/-! paths -/
theorem zTree_fr {t t2 W P : Nat} {u w : ZC} {r s : ZR} {S A : List Nat} {c h : Nat} (a : zFr t t2 W P u w) (ht : t < 23 ∨ t = 7777) (ht2 : t2 < 23 ∨ t2 = 7777) (b : zq S A r s) (hS : 9 ∉ S) (hA : 3 ∉ A ∧ 4 ∉ A ∧ 5 ∉ A ∧ 6 ∉ A ∧ 7 ∉ A ∧ 8 ∉ A) (H : zTree u r c h) : zTree w s c h := by
  obtain ⟨a1, a2, a3, a4, a5, a6⟩ := a
  obtain ⟨b1, b2, b3, b4⟩ := b
  have hc := H.1
  have i5 := a1 5 0 (by omega) (by omega)
  have i6 := a1 6 0 (by omega) (by omega)
  have p0 := a3 0 0 (by omega)
  have p1 := a3 1 0 (by omega)
  have p5 : ∀ n, cP w 5 n = cP u 5 n := fun n => a3 5 n (by omega)
  have p6 : ∀ n, cP w 6 n = cP u 6 n := fun n => a3 6 n (by omega)
  have p7 : ∀ n, cP w 7 n = cP u 7 n := fun n => a3 7 n (by omega)
  have j0 : ∀ n, cJ w 0 n = cJ u 0 n := fun n => a2 0 n (by omega)
  have hN : ∀ n : Nat, 1 ≤ n → n ≤ c → zNode u r c n → zNode w s c n := by
    intro n h1 hn hh
    have iT := a1 0 (n + 23) (by omega) (by omega)
    have aT : ∀ i : Nat, cA w 0 (n + 23) i = cA u 0 (n + 23) i := fun i => a4 0 (n + 23) i (by omega) (by omega)
    simp only [zNode, i5, iT, aT, p5, p6, p7, j0, a5, a6, b3 4 _ hA.2.1, b3 5 _ hA.2.2.1, b3 7 _ hA.2.2.2.2.1, b3 8 _ hA.2.2.2.2.2, b4 6 _ hA.2.2.2.1]
    exact hh
  obtain ⟨t1, t2', t3, t4, t5, t6, t7, t8, t9, t10, t11⟩ := H
  refine ⟨t1, i6.trans t2', p0.trans t3, p1.trans t4, (b1 9 hS).trans t5, t6, (p6 h).trans t7, fun n hn => (b3 3 n hA.1).trans (t8 n hn), ?_, fun n h1 hn => hN n h1 hn (t10 n h1 hn), by rw [a6]; exact t11.1, fun x y h1 h2 h3 => by rw [p5, p5, j0, j0]; exact t11.2.1 x y h1 h2 h3, fun i hi => t11.2.2.1 i (by rw [← a6]; exact hi), fun n hn => by rw [p5, p6, p7]; exact t11.2.2.2 n hn⟩
  rw [p5, p6, p7, b3 4 0 hA.2.1, b3 5 0 hA.2.2.1, b3 7 0 hA.2.2.2.2.1]
  exact t9
def zo (o : Option Nat) : Int := match o with
  | none => -1
  | some n => (n : Int)
/-- node x lies in directory d under the name nm -/
def zM (u : ZC) (d : Nat) (nm : Int64) (x : Nat) : Prop := cP u 5 x = some d ∧ cJ u 0 x = nm
/-- o is the first such node -/
def zKid (u : ZC) (c d : Nat) (nm : Int64) (o : Option Nat) : Prop := (o = none ∧ ∀ x, 1 ≤ x → x ≤ c → ¬ zM u d nm x) ∨ ∃ x, o = some x ∧ 1 ≤ x ∧ x ≤ c ∧ zM u d nm x ∧ ∀ y, 1 ≤ y → y < x → ¬ zM u d nm y
theorem child_loop (F : Nat) {u : ZC} {r : ZR} {c h : Nat} (H : zTree u r c h) (d : Nat) (hd : d ≤ 12) (nm : Int64) (o : Option Nat) (hk : zKid u c d nm o) : ∀ (j x n : Nat), j + x = 13 → 1 ≤ x → j < n → (∀ y, o = some y → x ≤ y) → r_child_3 F n r (d : Int) nm (x : Int) = some (zo o) := by
  have hc12 := H.1
  intro j
  induction j with
  | zero =>
    intro x n hx h1 hn hy
    obtain ⟨n, rfl⟩ : ∃ n', n = n' + 1 := ⟨n - 1, by omega⟩
    rw [r_child_3, if_pos (by rw [zI_le (by omega) (by omega) (by omega) (by omega)]; omega)]
    rcases hk with ⟨e, -⟩ | ⟨y, e, y1, y2, -⟩
    · rw [e]; rfl
    · have := hy y e
      omega
  | succ j ih =>
    intro x n hx h1 hn hy
    obtain ⟨n, rfl⟩ : ∃ n', n = n' + 1 := ⟨n - 1, by omega⟩
    have hz : zix (x : Int) 13 := ⟨by omega, by omega, by omega⟩
    have h3 := H.2.2.2.2.2.2.2.1 x (by omega)
    rw [r_child_3, if_neg (by rw [zI_le (by omega) (by omega) (by omega) (by omega)]; omega), if_pos hz]
    simp only [Int.toNat_natCast, h3]
    by_cases hxc : x ≤ c
    · obtain ⟨⟨p, hp, e1, e2, -⟩, -, e3, -⟩ := H.2.2.2.2.2.2.2.2.2.1 x h1 hxc
      rw [if_pos hxc, if_neg z10]
      simp only [e2, ← e3]
      by_cases hm : zM u d nm x
      · have hox : o = some x := by
          rcases hk with ⟨-, e⟩ | ⟨y, e, y1, y2, y3, y4⟩
          · exact absurd hm (e x h1 hxc)
          · have := hy y e
            by_cases hyx : y = x
            · rw [e, hyx]
            · exact absurd hm (y4 x h1 (by omega))
        obtain ⟨m1, m2⟩ := hm
        have hpd : p = d := by rw [e1] at m1; exact Option.some.inj m1
        rw [hpd, if_neg (not_not_intro rfl), if_neg (not_not_intro m2), hox]
        rfl
      · have hskip : (if ¬ zI (p : Int) = zI (d : Int) then some true else if ¬ cJ u 0 x = nm then some true else some false) = some true := by
          by_cases hpd : p = d
          · rw [hpd, if_neg (not_not_intro rfl), if_pos]
            intro e
            exact hm ⟨by rw [e1, hpd], e⟩
          · rw [if_pos (by rw [zI_eq (by omega) (by omega) (by omega) (by omega)]; omega)]
        rw [hskip]
        simp only [Option.bind_some, if_true]
        rw [show (x : Int) + 1 = ((x + 1 : Nat) : Int) by omega]
        refine ih (x + 1) n (by omega) (by omega) (by omega) (fun y e => ?_)
        have := hy y e
        by_cases hyx : y = x
        · rcases hk with ⟨e2, -⟩ | ⟨y', e2, y1, y2, y3, y4⟩
          · rw [e2] at e; cases e
          · rw [e2] at e
            have : y' = y := Option.some.inj e
            rw [this, hyx] at y3
            exact absurd y3 hm
        · omega
    · rw [if_neg hxc, if_pos z00]
      simp only [Option.bind_some, if_true]
      rw [show (x : Int) + 1 = ((x + 1 : Nat) : Int) by omega]
      refine ih (x + 1) n (by omega) (by omega) (by omega) (fun y e => ?_)
      have := hy y e
      rcases hk with ⟨e2, -⟩ | ⟨y', e2, y1, y2, y3, y4⟩
      · rw [e2] at e; cases e
      · rw [e2] at e
        have : y' = y := Option.some.inj e
        omega
theorem child_is (F : Nat) (hF : 20 ≤ F) {u : ZC} {r : ZR} {c h : Nat} (H : zTree u r c h) (d : Nat) (hd : d ≤ 12) (nm : Int64) (o : Option Nat) (hk : zKid u c d nm o) : r_child F r (d : Int) nm = some (zo o) := by
  refine child_loop F H d hd nm o hk 12 1 F (by omega) (by omega) (by omega) (fun y e => ?_)
  rcases hk with ⟨e2, -⟩ | ⟨y', e2, y1, y2, y3, y4⟩
  · rw [e2] at e; cases e
  · rw [e2] at e
    have : y' = y := Option.some.inj e
    omega
/-- the path followed last -/
def zPth (u : ZC) (f v : Option Nat) (nm : Int64) : ZC := sJ (sP (sP u 2 0 f) 3 0 v) 1 0 nm
theorem zPth_fr (u : ZC) (f v : Option Nat) (nm : Int64) : zFr 7777 7777 0 1 u (zPth u f v nm) := by
  refine ⟨fun _ _ _ _ => rfl, fun g o h => ?_, fun g o h => ?_, fun _ _ _ _ _ => rfl, rfl, rfl⟩
  · show (if g = 1 ∧ o = 0 then nm else cJ u g o) = cJ u g o
    rw [if_neg (by omega)]
  · show (if g = 3 ∧ o = 0 then v else if g = 2 ∧ o = 0 then f else cP u g o) = cP u g o
    rw [if_neg (by omega), if_neg (by omega)]
/-- only the path may have changed -/
def zFp (u w : ZC) : Prop := ∀ t t2 : Nat, zFr t t2 0 1 u w
theorem zFp_rf (u : ZC) : zFp u u := fun t t2 => zFr_rf t t2 0 1 u
theorem zFp_tr {u v w : ZC} (a : zFp u v) (b : zFp v w) : zFp u w := fun t t2 => zFr_tr (a t t2) (b t t2)
theorem zFp_th (u : ZC) (f v : Option Nat) (nm : Int64) : zFp u (zPth u f v nm) := by
  intro t t2
  refine ⟨fun _ _ _ _ => rfl, fun g o h => ?_, fun g o h => ?_, fun _ _ _ _ _ => rfl, rfl, rfl⟩
  · show (if g = 1 ∧ o = 0 then nm else cJ u g o) = cJ u g o
    rw [if_neg (by omega)]
  · show (if g = 3 ∧ o = 0 then v else if g = 2 ∧ o = 0 then f else cP u g o) = cP u g o
    rw [if_neg (by omega), if_neg (by omega)]
theorem zPth_ext {u w : ZC} {f v : Option Nat} {nm : Int64} (h1 : w.1 = u.1) (h2 : ∀ g o, cJ w g o = if g = 1 ∧ o = 0 then nm else cJ u g o) (h3 : ∀ g o, cP w g o = if g = 3 ∧ o = 0 then v else if g = 2 ∧ o = 0 then f else cP u g o) (h4 : w.2.2.2 = u.2.2.2) : w = zPth u f v nm := by
  refine Prod.ext h1 (Prod.ext ?_ (Prod.ext ?_ h4))
  · funext g o; exact h2 g o
  · funext g o; exact h3 g o
/-- the class looks for a name, from the newest node down -/
theorem fp_loop (F : Nat) {u : ZC} {r : ZR} {c h : Nat} (H : zTree u r c h) (d : Nat) (hd : d ≤ c) (nm : Int64) : ∀ (k n : Nat) (acc : Option Nat), k ≤ c → k + 1 < n → ((acc = none ∧ ∀ x, k < x → x ≤ c → ¬ zM u d nm x) ∨ ∃ x, acc = some x ∧ k < x ∧ x ≤ c ∧ zM u d nm x ∧ ∀ y, k < y → y < x → ¬ zM u d nm y) →
    ∃ o, zKid u c d nm o ∧ cTree_followPiece_116 F n (zPth u acc none nm) (some d) (some k) = some (zPth u o (if o = none then some d else none) nm) := by
  have hc12 := H.1
  have hlive : ∀ n, n ≤ c → ∀ acc, zlN (zPth u acc none nm) n := fun n hn acc => zlN_of H hn
  have hlO : ∀ acc, zlO (zPth u acc none nm) (some d) := fun acc => by
    show (decide (zlN (zPth u acc none nm) d)) = true
    exact decide_eq_true (hlive d hd acc)
  have e5 : ∀ acc x, cP (zPth u acc none nm) 5 x = cP u 5 x := fun acc x => rfl
  have e7 : ∀ acc x, cP (zPth u acc none nm) 7 x = cP u 7 x := fun acc x => rfl
  have eJ : ∀ acc x, cJ (zPth u acc none nm) 0 x = cJ u 0 x := fun acc x => rfl
  have eJ1 : ∀ acc, cJ (zPth u acc none nm) 1 0 = nm := fun acc => rfl
  have e2 : ∀ acc x, sP (zPth u acc none nm) 2 0 x = zPth u x none nm := by
    intro acc x
    refine zPth_ext rfl (fun _ _ => rfl) (fun g o => ?_) rfl
    show (if g = 2 ∧ o = 0 then x else if g = 3 ∧ o = 0 then none else if g = 2 ∧ o = 0 then acc else cP u g o) = if g = 3 ∧ o = 0 then none else if g = 2 ∧ o = 0 then x else cP u g o
    by_cases h2 : g = 2 ∧ o = 0
    · rw [if_pos h2, if_neg (by omega), if_pos h2]
    · rw [if_neg h2, if_neg h2, if_neg h2]
  have e3 : ∀ acc x, sP (zPth u acc none nm) 3 0 x = zPth u acc x nm := by
    intro acc x
    refine zPth_ext rfl (fun _ _ => rfl) (fun g o => ?_) rfl
    show (if g = 3 ∧ o = 0 then x else if g = 3 ∧ o = 0 then none else if g = 2 ∧ o = 0 then acc else cP u g o) = if g = 3 ∧ o = 0 then x else if g = 2 ∧ o = 0 then acc else cP u g o
    by_cases h2 : g = 3 ∧ o = 0
    · rw [if_pos h2, if_pos h2]
    · rw [if_neg h2, if_neg h2, if_neg h2]
  have hend : ∀ (n : Nat) (acc : Option Nat), cTree_followPiece_116 F (n + 1) (zPth u acc none nm) (some d) none = some (zPth u acc (if acc = none then some d else none) nm) := by
    intro n acc
    rw [cTree_followPiece_116]
    show Option.bind (Option.elim acc (some (some d)) (fun _ => some none)) (fun x19 => some (sP (zPth u acc none nm) 3 0 x19)) = _
    cases acc with
    | none => exact congrArg some (e3 none (some d))
    | some x => exact congrArg some (e3 (some x) none)
  intro k
  induction k with
  | zero =>
    intro n acc hk hn hinv
    obtain ⟨n, rfl⟩ : ∃ n', n = n' + 1 := ⟨n - 1, by omega⟩
    refine ⟨acc, ?_, ?_⟩
    · rcases hinv with ⟨e, hh⟩ | ⟨x, e, x1, x2, x3, x4⟩
      · exact Or.inl ⟨e, fun x h1 h2 => hh x h1 h2⟩
      · exact Or.inr ⟨x, e, x1, x2, x3, fun y h1 h2 => x4 y h1 h2⟩
    · obtain ⟨n, rfl⟩ : ∃ n', n = n' + 1 := ⟨n - 1, by omega⟩
      have hr := H.2.2.2.2.2.2.2.2.1
      have hl0 : zlO (zPth u acc none nm) (none : Option Nat) := rfl
      rw [cTree_followPiece_116]
      simp only [Option.elim_some, if_pos (hlive 0 (Nat.zero_le _) acc), Option.bind_some, e5, hr.1, if_pos hl0, if_pos (hlO acc)]
      rw [if_pos (show ¬ (none = some d) from fun h => by cases h)]
      simp only [Option.bind_some, if_true, if_pos (hlive 0 (Nat.zero_le _) acc), e7, hr.2.2.1]
      exact hend n acc
  | succ k ih =>
    intro n acc hk hn hinv
    obtain ⟨n, rfl⟩ : ∃ n', n = n' + 1 := ⟨n - 1, by omega⟩
    obtain ⟨⟨p, hp, f1, f2, -⟩, f3, f4, -⟩ := H.2.2.2.2.2.2.2.2.2.1 (k + 1) (by omega) hk
    have hlp : zlO (zPth u acc none nm) (some p) := by
      show (decide (zlN (zPth u acc none nm) p)) = true
      exact decide_eq_true (hlive p (by omega) acc)
    rw [cTree_followPiece_116]
    simp only [Option.elim_some, if_pos (hlive (k + 1) hk acc), Option.bind_some, e5, f1, if_pos hlp, if_pos (hlO acc), eJ, eJ1]
    by_cases hm : zM u d nm (k + 1)
    · obtain ⟨m1, m2⟩ := hm
      have hpd : p = d := by rw [f1] at m1; exact Option.some.inj m1
      rw [if_neg (not_not_intro (by rw [hpd])), if_neg (not_not_intro m2)]
      simp only [Option.bind_some, reduceCtorEq, if_false, e2, if_pos (hlive (k + 1) hk (some (k + 1))), e7, f3, Nat.add_sub_cancel]
      exact ih n (some (k + 1)) (by omega) (by omega) (Or.inr ⟨k + 1, rfl, by omega, hk, ⟨m1, m2⟩, fun y h1 h2 => by omega⟩)
    · have hskip : (if ¬ (some p = some d) then some true else if ¬ cJ u 0 (k + 1) = nm then some true else some false) = some true := by
        by_cases hpd : p = d
        · rw [if_neg (not_not_intro (by rw [hpd])), if_pos]
          intro e
          exact hm ⟨by rw [f1, hpd], e⟩
        · rw [if_pos (fun h => hpd (Option.some.inj h))]
      rw [hskip]
      simp only [Option.bind_some, if_true, if_pos (hlive (k + 1) hk acc), e7, f3, Nat.add_sub_cancel]
      refine ih n acc (by omega) (by omega) ?_
      rcases hinv with ⟨e, hh⟩ | ⟨x, e, x1, x2, x3, x4⟩
      · refine Or.inl ⟨e, fun x h1 h2 => ?_⟩
        by_cases hx : x = k + 1
        · rw [hx]; exact hm
        · exact hh x (by omega) h2
      · refine Or.inr ⟨x, e, by omega, x2, x3, fun y h1 h2 => ?_⟩
        by_cases hy : y = k + 1
        · rw [hy]; exact hm
        · exact x4 y (by omega) h2
theorem zKid_u {u : ZC} {c d : Nat} {nm : Int64} {o o2 : Option Nat} (h : zKid u c d nm o) (h2 : zKid u c d nm o2) : o = o2 := by
  rcases h with ⟨e, hh⟩ | ⟨x, e, x1, x2, x3, x4⟩
  · rcases h2 with ⟨f, -⟩ | ⟨y, f, y1, y2, y3, y4⟩
    · rw [e, f]
    · exact absurd y3 (hh y y1 y2)
  · rcases h2 with ⟨f, hh⟩ | ⟨y, f, y1, y2, y3, y4⟩
    · exact absurd x3 (hh x x1 x2)
    · have : x = y := by
        apply Classical.byContradiction
        intro hne
        by_cases hlt : x < y
        · exact y4 x x1 hlt x3
        · exact x4 y y1 (by omega) y3
      rw [e, f, this]
