/-! type, both sides -/
/-- all but text 0 and the tokens of the class's state is as it was -/
def zkC (u w : ZC) : Prop := (∀ f o, ¬ ((f = 0 ∨ f = 1 ∨ f = 2 ∨ f = 3) ∧ o = 0) → cI w f o = cI u f o) ∧ (∀ f o, cJ w f o = cJ u f o) ∧ (∀ f o, cP w f o = cP u f o) ∧ (∀ f o i, ¬ ((f = 0 ∨ f = 1 ∨ f = 2 ∨ f = 3) ∧ o = 0) → cA w f o i = cA u f o i) ∧ cN w = cN u ∧ cL w = cL u
/-- all but the line and the tokens of the reference's state is as it was -/
def zkR (r w : ZR) : Prop := (∀ f, f ≠ 10 ∧ f ≠ 12 → rI w f = rI r f) ∧ (∀ f, rJ w f = rJ r f) ∧ (∀ f i, f ≠ 11 ∧ f ≠ 13 ∧ f ≠ 14 ∧ f ≠ 15 → rA w f i = rA r f i) ∧ ∀ f i, rL w f i = rL r f i
theorem zkC_rf (u : ZC) : zkC u u := ⟨fun _ _ _ => rfl, fun _ _ => rfl, fun _ _ => rfl, fun _ _ _ _ => rfl, rfl, rfl⟩
theorem zkC_tr {u v w : ZC} (a : zkC u v) (b : zkC v w) : zkC u w := ⟨fun f o h => (b.1 f o h).trans (a.1 f o h), fun f o => (b.2.1 f o).trans (a.2.1 f o), fun f o => (b.2.2.1 f o).trans (a.2.2.1 f o), fun f o i h => (b.2.2.2.1 f o i h).trans (a.2.2.2.1 f o i h), b.2.2.2.2.1.trans a.2.2.2.2.1, b.2.2.2.2.2.trans a.2.2.2.2.2⟩
theorem zkR_rf (r : ZR) : zkR r r := ⟨fun _ _ => rfl, fun _ => rfl, fun _ _ _ => rfl, fun _ _ => rfl⟩
theorem zkR_tr {u v w : ZR} (a : zkR u v) (b : zkR v w) : zkR u w := ⟨fun f h => (b.1 f h).trans (a.1 f h), fun f => (b.2.1 f).trans (a.2.1 f), fun f i h => (b.2.2.1 f i h).trans (a.2.2.1 f i h), fun f i => (b.2.2.2 f i).trans (a.2.2.2 f i)⟩
theorem zkC_ad1 (u : ZC) (b : Int) : zkC u (zad1 u b) := by
  refine ⟨fun f o h => ?_, fun _ _ => rfl, fun _ _ => rfl, fun f o i h => ?_, rfl, rfl⟩
  · show (if f = 0 ∧ o = 0 then cI u 0 0 + 1 else cI u f o) = cI u f o
    rw [if_neg (by omega)]
  · show (if f = 0 ∧ o = 0 ∧ i = (cI u 0 0).toNat then b else cA u f o i) = cA u f o i
    rw [if_neg (by omega)]
theorem zkC_app (v : Int64) : ∀ (j k : Nat) (u : ZC), zkC u (zapp v k j u) := by
  intro j
  induction j with
  | zero => intro k u; exact zkC_rf u
  | succ j ih =>
    intro k u
    refine zkC_tr ?_ (ih (k + 1) (if zby v (56 - 8 * k) = 0 then u else zad1 u (zby v (56 - 8 * k))))
    split
    · exact zkC_rf u
    · exact zkC_ad1 u _
theorem zkR_A (r : ZR) (i : Nat) (b : Int) : zkR r (tA r 11 i b) := by
  refine ⟨fun _ _ => rfl, fun _ => rfl, fun f j h => ?_, fun _ _ => rfl⟩
  show (if f = 11 ∧ j = i then b else rA r f j) = rA r f j
  rw [if_neg (by omega)]
theorem zkR_I (r : ZR) (b : Int) : zkR r (tI r 10 b) := by
  refine ⟨fun f h => ?_, fun _ => rfl, fun _ _ _ => rfl, fun _ _ => rfl⟩
  show (if f = 10 then b else rI r f) = rI r f
  rw [if_neg h.1]
theorem zkR_rty (v : Int64) : ∀ (j k : Nat) (r : ZR) (m : Int), zkR r (zrty v k j r m).2 := by
  intro j
  induction j with
  | zero => intro k r m; exact zkR_rf r
  | succ j ih =>
    intro k r m
    simp only [zrty]
    split
    · exact ih (k + 1) r m
    · split
      · exact zkR_rf r
      · exact zkR_tr (zkR_A r _ _) (ih (k + 1) _ _)
theorem type_alike (F : Nat) (hF : 9 ≤ F) (u : ZC) (r : ZR) (v : Int64) (h : zln u r) : ∃ (a : Int) (u2 : ZC) (r2 : ZR), cShell_type F u v = some (a, u2) ∧ r_type F r v = some (a, r2) ∧ zln u2 r2 ∧ zkC u u2 ∧ zkR r r2 := by
  obtain ⟨⟨h0, h1⟩, h2, h3, h4⟩ := h
  have hc := type_loop F u v h0 h1 8 F 0 0 rfl (by omega) (by omega) (by omega)
  have hr := rtype_loop F v 8 F 0 r (cI u 0 0) rfl (by omega) h0 h1
  have ec : cShell_type F u v = cShell_type_6 F F u v 0 (56 - 8 * ((0 : Nat) : Int)) := rfl
  have er : r_type F r v = r_type_8 F F r v (cI u 0 0) ((0 : Nat) : Int) := by
    show r_type_8 F F r v (rI r 10) 0 = _
    rw [h2]
    rfl
  have hk := zrty_keep v 8 0 r (cI u 0 0) h0
  have ho := zrty_ok v 8 0 r (cI u 0 0) h1
  have hz := zct_in v 8 0
  rw [Int.zero_add] at hc
  by_cases g : zok v 0 8 = true ∧ cI u 0 0 + zct v 0 8 ≤ 64
  · have ep : cText_addPacked F u 0 v = some (zapp v 0 8 u) := packed_loop F v 8 F 0 u rfl (by omega) h0 g.2 h3
    obtain ⟨a1, a2⟩ := app_alike v 8 0 u r g.1 h0 g.2 h4
    refine ⟨1, zapp v 0 8 u, tI (zrty v 0 8 r (cI u 0 0)).2 10 (cI u 0 0 + zct v 0 8), ?_, ?_, ⟨⟨by rw [a1]; omega, by rw [a1]; omega⟩, ?_, ?_, ?_⟩, zkC_app v 8 0 u, zkR_tr (zkR_rty v 8 0 r _) (zkR_I _ _)⟩
    · rw [ec, hc, if_pos g.1, if_pos g.2, ep]
      rfl
    · rw [er, hr, if_pos (ho.mpr g)]
    · rw [a1]
      rfl
    · rw [zapp_keep]
      exact h3
    · intro i hi
      rw [a1] at hi
      exact a2 i hi
  · refine ⟨0, u, (zrty v 0 8 r (cI u 0 0)).2, ?_, ?_, ⟨⟨h0, h1⟩, ?_, h3, ?_⟩, zkC_rf u, zkR_rty v 8 0 r _⟩
    · rw [ec, hc]
      by_cases g1 : zok v 0 8 = true
      · rw [if_pos g1, if_neg (fun q => g ⟨g1, q⟩)]
      · rw [if_neg g1]
    · rw [er, hr, if_neg (fun q => g (ho.mp q))]
    · rw [hk.1]
      exact h2
    · intro i hi
      rw [hk.2 i hi]
      exact h4 i hi
