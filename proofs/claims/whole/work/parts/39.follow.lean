/-! paths on both sides -/
theorem zdir {u : ZC} {r : ZR} {c h : Nat} (H : zTree u r c h) (d : Nat) (hd : d ≤ c) : (cP u 6 d = none ∧ rA r 4 d = 1) ∨ (1 ≤ d ∧ cP u 6 d = some (d + 23) ∧ rA r 4 d = 0) := by
  by_cases h0 : d = 0
  · subst h0
    have := H.2.2.2.2.2.2.2.2.1
    exact Or.inl ⟨this.2.1, this.2.2.2.1⟩
  · have := (H.2.2.2.2.2.2.2.2.2.1 d (by omega) hd).2.2.2.2.2
    rcases this with ⟨a, b, -⟩ | ⟨a, b, -⟩
    · exact Or.inl ⟨a, b⟩
    · exact Or.inr ⟨by omega, a, b⟩
theorem zpar {u : ZC} {r : ZR} {c h : Nat} (H : zTree u r c h) (d : Nat) (hd : d ≤ c) : (d = 0 ∧ cP u 5 d = none ∧ rA r 5 d = 0) ∨ ∃ p : Nat, p < d ∧ cP u 5 d = some p ∧ rA r 5 d = (p : Int) := by
  by_cases h0 : d = 0
  · subst h0
    have := H.2.2.2.2.2.2.2.2.1
    exact Or.inl ⟨rfl, this.1, this.2.2.2.2.1⟩
  · obtain ⟨p, hp, e1, e2, -⟩ := (H.2.2.2.2.2.2.2.2.2.1 d (by omega) hd).1
    exact Or.inr ⟨p, hp, e1, e2⟩
theorem znat_inj {a b : Int64} (h : a.toBitVec.toNat = b.toBitVec.toNat) : a = b := Int64.toBitVec_inj.1 (BitVec.eq_of_toNat_eq h)
theorem zpc1 (w : List Int) (hl : zlw w) (h : w.length = 1) : zpc w 0 = 46 ↔ w = [46] := by
  obtain ⟨x, rfl⟩ := List.length_eq_one_iff.1 h
  have hx := hl x (List.mem_singleton.2 rfl)
  have e : (zpc [x] 0).toBitVec.toNat = x.toNat := by
    have := zstep_nat 0 x (by decide) ⟨by omega, by omega⟩
    rw [show zpc [x] 0 = (zlshl 0 8 ||| zi2l x) from rfl, this]
    show 0 * 256 + x.toNat = x.toNat
    omega
  constructor
  · intro h2
    rw [h2] at e
    have e : 46 = x.toNat := e
    rw [show x = 46 by omega]
  · intro h2
    have : x = 46 := (List.cons.inj h2).1
    subst this
    decide
theorem zpc2 (w : List Int) (hl : zlw w) (h : w.length = 2) : zpc w 0 = 11822 ↔ w = [46, 46] := by
  obtain ⟨x, y, rfl⟩ : ∃ x y, w = [x, y] := by
    match w, h with
    | [x, y], _ => exact ⟨x, y, rfl⟩
  have hx := hl x (by simp)
  have hy := hl y (by simp)
  have e1 : (zlshl 0 8 ||| zi2l x).toBitVec.toNat = x.toNat := by
    have := zstep_nat 0 x (by decide) ⟨by omega, by omega⟩
    rw [this]
    show 0 * 256 + x.toNat = x.toNat
    omega
  have e : (zpc [x, y] 0).toBitVec.toNat = x.toNat * 256 + y.toNat := by
    have := zstep_nat (zlshl 0 8 ||| zi2l x) y (by rw [e1]; omega) ⟨by omega, by omega⟩
    rw [show zpc [x, y] 0 = (zlshl (zlshl 0 8 ||| zi2l x) 8 ||| zi2l y) from rfl, this, e1]
  constructor
  · intro h2
    rw [h2] at e
    have e : 11822 = x.toNat * 256 + y.toNat := e
    rw [show x = 46 by omega, show y = 46 by omega]
  · intro h2
    obtain ⟨a, b⟩ := List.cons.inj h2
    have b := (List.cons.inj b).1
    subst a
    subst b
    decide
/-- the path followed last, on both sides -/
def zPa (u : ZC) (r : ZR) (c : Nat) : Prop := rI r 42 = zo (cP u 2 0) ∧ rI r 43 = zo (cP u 3 0) ∧ (∀ n, cP u 2 0 = some n → n ≤ c) ∧ (∀ d, cP u 3 0 = some d → (d ≤ c ∧ cP u 6 d = none) ∧ rJ r 44 = cJ u 1 0 ∧ zNm (cJ u 1 0) ∧ cP u 2 0 = none ∧ ∀ x, 1 ≤ x → x ≤ c → ¬ zM u d (cJ u 1 0) x)
theorem zPth_0 (u : ZC) : zPth u (cP u 2 0) (cP u 3 0) (cJ u 1 0) = u := by
  refine (zPth_ext rfl (fun g o => ?_) (fun g o => ?_) rfl).symm
  · by_cases h : g = 1 ∧ o = 0
    · rw [if_pos h, h.1, h.2]
    · rw [if_neg h]
  · by_cases h : g = 3 ∧ o = 0
    · rw [if_pos h, h.1, h.2]
    · rw [if_neg h]
      by_cases h : g = 2 ∧ o = 0
      · rw [if_pos h, h.1, h.2]
      · rw [if_neg h]
theorem zKid_M {u w : ZC} {c d : Nat} {nm : Int64} {o : Option Nat} (h5 : ∀ x, cP w 5 x = cP u 5 x) (h0 : ∀ x, cJ w 0 x = cJ u 0 x) (x : Nat) : zM w d nm x ↔ zM u d nm x := by
  unfold zM
  rw [h5, h0]
/-- what a piece does: class -/
theorem cpiece_is (F : Nat) (hF : 20 ≤ F) {u : ZC} {r : ZR} {c h : Nat} (H : zTree u r c h) (ho : ∀ n, cP u 2 0 = some n → n ≤ c) (w : List Int) (hw : zlw w) (hw96 : w.length ≤ 96) :
    ((w = [] ∨ w = [46]) ∧ cTree_followPiece F u (zpc w 0) (w.length : Int) (zB (w.all zNb)) = some u) ∨
    (¬ (w = [] ∨ w = [46]) ∧ (∀ d, cP u 2 0 = some d → cP u 6 d ≠ none) ∧ cTree_followPiece F u (zpc w 0) (w.length : Int) (zB (w.all zNb)) = some (zPth u none none (cJ u 1 0))) ∨
    (¬ (w = [] ∨ w = [46]) ∧ ∃ d, cP u 2 0 = some d ∧ cP u 6 d = none ∧
      ((w = [46, 46] ∧ cTree_followPiece F u (zpc w 0) (w.length : Int) (zB (w.all zNb)) = some (zPth u (some ((cP u 5 d).getD d)) none (cJ u 1 0))) ∨
       (w ≠ [46, 46] ∧ ¬ (w.length ≤ 7 ∧ w.all zNb = true) ∧ cTree_followPiece F u (zpc w 0) (w.length : Int) (zB (w.all zNb)) = some (zPth u none none (cJ u 1 0))) ∨
       (w ≠ [46, 46] ∧ (w.length ≤ 7 ∧ w.all zNb = true) ∧ ∃ o, zKid u c d (zpack w) o ∧ cTree_followPiece F u (zpc w 0) (w.length : Int) (zB (w.all zNb)) = some (zPth u o (if o = none then some d else none) (zpack w))))) := by
  have hc12 := H.1
  have e00 : sP (sP u 2 0 none) 3 0 none = zPth u none none (cJ u 1 0) := by
    refine zPth_ext rfl (fun g o => ?_) (fun _ _ => rfl) rfl
    by_cases h : g = 1 ∧ o = 0
    · rw [if_pos h, h.1, h.2]; rfl
    · rw [if_neg h]; rfl
  by_cases hA : w = [] ∨ w = [46]
  · refine Or.inl ⟨hA, ?_⟩
    unfold cTree_followPiece
    rcases hA with h | h
    · subst h; rfl
    · subst h
      rw [if_neg (show ¬ zI (([46] : List Int).length : Int) = 0 by decide), if_neg (show ¬ ¬ zI (([46] : List Int).length : Int) = zI 1 by decide), if_neg (show ¬ ¬ zpc [46] 0 = 46 by decide)]
      rfl
  · have hskip : (if zI (w.length : Int) = 0 then some true else if ¬ zI (w.length : Int) = zI 1 then some false else if ¬ zpc w 0 = (46 : Int64) then some false else some true) = some false := by
      rw [if_neg (show ¬ zI (w.length : Int) = 0 by rw [zI_eq0 (by omega) (by omega)]; intro h; exact hA (Or.inl (List.eq_nil_of_length_eq_zero (by omega))))]
      by_cases h1 : w.length = 1
      · rw [if_neg (not_not_intro (by rw [h1]; rfl)), if_pos (fun h => hA (Or.inr ((zpc1 w hw h1).1 h)))]
      · rw [if_pos (by rw [zI_eq (by omega) (by omega) (by omega) (by omega)]; omega)]
    unfold cTree_followPiece
    rw [hskip]
    simp only [Option.bind_some, reduceCtorEq, if_false, e00]
    cases ho2 : cP u 2 0 with
    | none =>
      refine Or.inr (Or.inl ⟨hA, (fun d e => by cases e), ?_⟩)
      simp only [Option.elim_none, Option.bind_some, if_true]
    | some d =>
      have hdc := ho d ho2
      have hl : zlN (zPth u none none (cJ u 1 0)) d := zlN_of H hdc
      have e6 : cP (zPth u none none (cJ u 1 0)) 6 d = cP u 6 d := rfl
      have e5 : cP (zPth u none none (cJ u 1 0)) 5 d = cP u 5 d := rfl
      simp only [Option.elim_some, if_pos hl, e6, e5]
      rcases zdir H d hdc with ⟨d1, d2⟩ | ⟨d0, d1, d2⟩
      · refine Or.inr (Or.inr ⟨hA, d, rfl, d1, ?_⟩)
        simp only [d1, Option.elim_none, Option.bind_some, reduceCtorEq, if_false]
        by_cases h2 : w = [46, 46]
        · refine Or.inl ⟨h2, ?_⟩
          subst h2
          rw [if_neg (show ¬ ¬ zI (([46, 46] : List Int).length : Int) = zI 2 by decide), if_neg (show ¬ ¬ zpc [46, 46] 0 = 11822 by decide)]
          simp only [Option.bind_some, reduceCtorEq, if_false]
          have e2 : ∀ x, sP (zPth u none none (cJ u 1 0)) 2 0 x = zPth u x none (cJ u 1 0) := by
            intro x
            refine zPth_ext rfl (fun _ _ => rfl) (fun g o => ?_) rfl
            show (if g = 2 ∧ o = 0 then x else if g = 3 ∧ o = 0 then none else if g = 2 ∧ o = 0 then none else cP u g o) = if g = 3 ∧ o = 0 then none else if g = 2 ∧ o = 0 then x else cP u g o
            by_cases h2 : g = 2 ∧ o = 0
            · rw [if_pos h2, if_neg (by omega), if_pos h2]
            · rw [if_neg h2, if_neg h2, if_neg h2]
          cases h5 : cP u 5 d with
          | none => simp only [Option.elim_none, Option.bind_some, e2, Option.getD_none]
          | some p => simp only [Option.elim_some, Option.bind_some, e2, Option.getD_some]
        · have hb7 : (if ¬ zI (w.length : Int) = zI 2 then some true else if ¬ zpc w 0 = (11822 : Int64) then some true else some false) = some true := by
            by_cases hl2 : w.length = 2
            · rw [if_neg (not_not_intro (by rw [hl2]; rfl)), if_pos (fun h => h2 ((zpc2 w hw hl2).1 h))]
            · rw [if_pos (by rw [zI_eq (by omega) (by omega) (by omega) (by omega)]; omega)]
          rw [hb7]
          simp only [Option.bind_some, if_true]
          by_cases hpl : w.length ≤ 7 ∧ w.all zNb = true
          · refine Or.inr (Or.inr ⟨h2, hpl, ?_⟩)
            rw [if_neg (show ¬ zI 7 < zI (w.length : Int) by rw [zI_lt (by omega) (by omega) (by omega) (by omega)]; omega), hpl.2, zB_t, if_neg z10]
            simp only [Option.bind_some, reduceCtorEq, if_false]
            rw [zpc_pack w hpl.1]
            have eJ : sJ (zPth u none none (cJ u 1 0)) 1 0 (zpack w) = zPth u none none (zpack w) := by
              refine zPth_ext rfl (fun g o => ?_) (fun _ _ => rfl) rfl
              show (if g = 1 ∧ o = 0 then zpack w else if g = 1 ∧ o = 0 then cJ u 1 0 else cJ u g o) = if g = 1 ∧ o = 0 then zpack w else cJ u g o
              by_cases h : g = 1 ∧ o = 0
              · rw [if_pos h, if_pos h]
              · rw [if_neg h, if_neg h, if_neg h]
            rw [eJ]
            have e0 : cP (zPth u none none (zpack w)) 0 0 = some c := H.2.2.1
            rw [e0]
            exact fp_loop F H d hdc (zpack w) c F none (Nat.le_refl _) (by omega) (Or.inl ⟨rfl, fun x h1 h2 => by omega⟩)
          · refine Or.inr (Or.inl ⟨h2, hpl, ?_⟩)
            have hb8 : (if zI 7 < zI (w.length : Int) then some true else if zI (zB (w.all zNb)) = 0 then some true else some false) = some true := by
              by_cases h7 : w.length ≤ 7
              · rw [if_neg (show ¬ zI 7 < zI (w.length : Int) by rw [zI_lt (by omega) (by omega) (by omega) (by omega)]; omega)]
                cases hall : w.all zNb
                · rfl
                · exact absurd ⟨h7, hall⟩ hpl
              · rw [if_pos (by rw [zI_lt (by omega) (by omega) (by omega) (by omega)]; omega)]
            rw [hb8]
            simp only [Option.bind_some, if_true]
      · refine Or.inr (Or.inl ⟨hA, fun d' e => ?_, ?_⟩)
        · rw [← Option.some.inj e, d1]
          exact fun h => by cases h
        · simp only [d1, Option.elim_some, Option.bind_some, if_true]
/-- names that no node has -/
theorem znokid {u : ZC} {r : ZR} {c h : Nat} (H : zTree u r c h) (d : Nat) (w : List Int) (hw : zlw w) (hn : ¬ (w.length ≤ 7 ∧ w.all zNb = true)) : zKid u c d (zPk w) none := by
  refine Or.inl ⟨rfl, fun x h1 h2 hm => ?_⟩
  obtain ⟨w2, a1, a2, a3, a4⟩ := (H.2.2.2.2.2.2.2.2.2.1 x h1 h2).2.2.2.2.1
  have hw2 : zlw w2 := fun y hy => by
    have := a3 y hy
    unfold zNl at this
    omega
  have e : zPk w = zpack w2 := by rw [← a4]; exact hm.2.symm
  have e2 := (zPk_eq hw hw2 a2).1 e
  subst e2
  exact hn ⟨a2, List.all_eq_true.2 (fun y hy => (zNb_iff y).2 (a3 y hy))⟩
