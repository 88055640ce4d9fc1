theorem zel {α : Type} {w : Option Nat} {x : Option α} {f : Nat → Option α} {o : α} (h : Option.elim w x f = some o) : (w = none ∧ x = some o) ∨ ∃ n, w = some n ∧ f n = some o := by
  cases w with
  | none => exact Or.inl ⟨rfl, h⟩
  | some n => exact Or.inr ⟨n, rfl, h⟩
theorem zpp {c : Prop} [Decidable c] {α : Type} {a b : Option α} {o : α} (h : (if c then a else b) = some o) : (c ∧ a = some o) ∨ (¬ c ∧ b = some o) := by
  by_cases hc : c
  · rw [if_pos hc] at h
    exact Or.inl ⟨hc, h⟩
  · rw [if_neg hc] at h
    exact Or.inr ⟨hc, h⟩
theorem l_cText_add (F : Nat) (u : ZC) (v0 : Nat) (v1 : Int) {uo : ZC} (hf : cText_add F u v0 v1 = some uo) : cL uo = cL u := by
  rw [cText_add] at hf
  obtain ⟨-, hf⟩ := zg hf
  obtain ⟨u2, l1, hf⟩ := ze1 hf
  have l2 : cL u2 = cL u := by
    rcases zpp l1 with ⟨-, l1⟩ | ⟨-, l1⟩
    · exact (congrArg cL ((Option.some.inj l1)).symm).trans (rfl)
    · obtain ⟨-, l1⟩ := zg l1
      obtain ⟨-, l1⟩ := zg l1
      obtain ⟨u1, l3, l1⟩ := ze1 l1
      have l3 : cL u1 = cL (sI (sA u 0 v0 (cI u 0 v0).toNat v1) 0 v0 ((cI (sA u 0 v0 (cI u 0 v0).toNat v1) 0 v0) + 1)) := congrArg cL (Option.some.inj l3).symm
      exact (congrArg cL ((Option.some.inj l1)).symm).trans (l3)
  exact (congrArg cL ((Option.some.inj hf)).symm).trans (l2)
theorem l_cText_addPacked (F : Nat) (u : ZC) (v0 : Nat) (v1 : Int64) {uo : ZC} (hf : cText_addPacked F u v0 v1 = some uo) : cL uo = cL u := by
  have C_3 : ∀ (n : Nat), ∀ (u : ZC) (v0 : Nat) (v1 : Int64) (v3 : Int), cText_addPacked_3 F n u v0 v1 v3 = some uo → cL uo = cL u := by
    intro n
    induction n with
    | zero => intro u v0 v1 v3 hf; cases (show (none : Option (ZC)) = some uo from hf)
    | succ n ih =>
      intro u v0 v1 v3 hf
      rw [cText_addPacked_3] at hf
      rcases zpp hf with ⟨-, hf⟩ | ⟨-, hf⟩
      · exact (congrArg cL ((Option.some.inj hf)).symm).trans (rfl)
      · obtain ⟨u2, l1, hf⟩ := ze1 hf
        have l2 : cL u2 = cL u := by
          rcases zpp l1 with ⟨-, l1⟩ | ⟨-, l1⟩
          · exact (congrArg cL ((Option.some.inj l1)).symm).trans (rfl)
          · obtain ⟨-, l1⟩ := zg l1
            obtain ⟨u1, l3, l1⟩ := ze1 l1
            have l4 : cL u1 = cL u := l_cText_add F _ _ _ l3
            exact (congrArg cL ((Option.some.inj l1)).symm).trans (l4)
        exact (ih _ _ _ _ hf).trans (l2)
  rw [cText_addPacked] at hf
  exact (C_3 F _ _ _ _ hf).trans (rfl)
theorem l_cShell_type (F : Nat) (u : ZC) (v1 : Int64) {res : Int} {uo : ZC} (hf : cShell_type F u v1 = some (res, uo)) : cL uo = cL u := by
  have C_6 : ∀ (n : Nat), ∀ (u : ZC) (v1 : Int64) (v3 : Int) (v4 : Int), cShell_type_6 F n u v1 v3 v4 = some (res, uo) → cL uo = cL u := by
    intro n
    induction n with
    | zero => intro u v1 v3 v4 hf; cases (show (none : Option (Int × ZC)) = some (res, uo) from hf)
    | succ n ih =>
      intro u v1 v3 v4 hf
      rw [cShell_type_6] at hf
      rcases zpp hf with ⟨-, hf⟩ | ⟨-, hf⟩
      · rcases zpp hf with ⟨-, hf⟩ | ⟨-, hf⟩
        · obtain ⟨u1, l1, hf⟩ := ze1 hf
          have l2 : cL u1 = cL u := l_cText_addPacked F _ _ _ l1
          exact (congrArg cL (congrArg Prod.snd (Option.some.inj hf)).symm).trans (l2)
        · exact (congrArg cL (congrArg Prod.snd (Option.some.inj hf)).symm).trans (rfl)
      · obtain ⟨b2, l3, hf⟩ := ze1 hf
        rcases zpp hf with ⟨-, hf⟩ | ⟨-, hf⟩
        · obtain ⟨x3, l4, hf⟩ := ze1 hf
          exact (ih _ _ _ _ hf).trans (rfl)
        · exact (congrArg cL (congrArg Prod.snd (Option.some.inj hf)).symm).trans (rfl)
  rw [cShell_type] at hf
  exact (C_6 F _ _ _ _ hf).trans (rfl)
theorem l_cText_clear (F : Nat) (u : ZC) (v0 : Nat) {uo : ZC} (hf : cText_clear F u v0 = some uo) : cL uo = cL u := by
  rw [cText_clear] at hf
  obtain ⟨-, hf⟩ := zg hf
  exact (congrArg cL ((Option.some.inj hf)).symm).trans (rfl)
theorem l_cShell_wipe (F : Nat) (u : ZC) {uo : ZC} (hf : cShell_wipe F u = some uo) : cL uo = cL u := by
  rw [cShell_wipe] at hf
  obtain ⟨u1, l1, hf⟩ := ze1 hf
  have l2 : cL u1 = cL u := l_cText_clear F _ _ l1
  exact (congrArg cL ((Option.some.inj hf)).symm).trans (l2)
theorem l_cTokens_cutLine (F : Nat) (u : ZC) {res : Int} {uo : ZC} (hf : cTokens_cutLine F u = some (res, uo)) : cL uo = cL u := by
  have C_134 : ∀ (k7 : ZC → Int → Option (Int × ZC)) (hk7 : ∀ (u : ZC) (v1 : Int), k7 u v1 = some (res, uo) → cL uo = cL u) , ∀ (u : ZC) (v1 : Int) (v2 : Int), cTokens_cutLine_134 F k7 u v1 v2 = some (res, uo) → cL uo = cL u := by
    intro k7 hk7 u v1 v2 hf
    rw [cTokens_cutLine_134] at hf
    exact (hk7 _ _ hf).trans (rfl)
  have C_7 : ∀ (n : Nat), ∀ (u : ZC) (v1 : Int), cTokens_cutLine_7 F n u v1 = some (res, uo) → cL uo = cL u := by
    intro n
    induction n with
    | zero => intro u v1 hf; cases (show (none : Option (Int × ZC)) = some (res, uo) from hf)
    | succ n ih =>
      intro u v1 hf
      rw [cTokens_cutLine_7] at hf
      rcases zpp hf with ⟨-, hf⟩ | ⟨-, hf⟩
      · exact (congrArg cL (congrArg Prod.snd (Option.some.inj hf)).symm).trans (rfl)
      · obtain ⟨-, hf⟩ := zg hf
        rcases zpp hf with ⟨-, hf⟩ | ⟨-, hf⟩
        · exact (C_134 _ ih _ _ _ hf).trans (rfl)
        · obtain ⟨p1, l1, hf⟩ := ze1 hf
          obtain ⟨x4, l2, hf⟩ := ze1 hf
          obtain ⟨b5, l3, hf⟩ := ze1 hf
          rcases zpp hf with ⟨-, hf⟩ | ⟨-, hf⟩
          · exact (congrArg cL (congrArg Prod.snd (Option.some.inj hf)).symm).trans (rfl)
          · obtain ⟨-, hf⟩ := zg hf
            obtain ⟨-, hf⟩ := zg hf
            obtain ⟨u6, l4, hf⟩ := ze1 hf
            have l4 : cL u6 = cL (sA (sA u 1 0 (cI u 2 0).toNat p1) 2 0 (cI (sA u 1 0 (cI u 2 0).toNat p1) 2 0).toNat v1) := congrArg cL (Option.some.inj l4).symm
            obtain ⟨-, hf⟩ := zg hf
            obtain ⟨u7, l5, hf⟩ := ze1 hf
            have l5 : cL u7 = cL (sI (sA u6 3 0 (cI u6 2 0).toNat x4) 2 0 ((cI (sA u6 3 0 (cI u6 2 0).toNat x4) 2 0) + 1)) := congrArg cL (Option.some.inj l5).symm
            exact (C_134 _ ih _ _ _ hf).trans ((l5).trans (l4))
  rw [cTokens_cutLine] at hf
  exact (C_7 F _ _ hf).trans (rfl)
theorem l_cGrammar_readRedirections (F : Nat) (u : ZC) {res : Int} {uo : ZC} (hf : cGrammar_readRedirections F u = some (res, uo)) : cL uo = cL u := by
  have C_2 : ∀ (n : Nat), ∀ (u : ZC) (v1 : Int), cGrammar_readRedirections_2 F n u v1 = some (res, uo) → cL uo = cL u := by
    intro n
    induction n with
    | zero => intro u v1 hf; cases (show (none : Option (Int × ZC)) = some (res, uo) from hf)
    | succ n ih =>
      intro u v1 hf
      rw [cGrammar_readRedirections_2] at hf
      obtain ⟨b2, l1, hf⟩ := ze1 hf
      rcases zpp hf with ⟨-, hf⟩ | ⟨-, hf⟩
      · exact (congrArg cL (congrArg Prod.snd (Option.some.inj hf)).symm).trans (rfl)
      · obtain ⟨p3, l2, hf⟩ := ze1 hf
        rcases zpp hf with ⟨-, hf⟩ | ⟨-, hf⟩
        · exact (ih _ _ hf).trans (rfl)
        · exact (congrArg cL (congrArg Prod.snd (Option.some.inj hf)).symm).trans (rfl)
  rw [cGrammar_readRedirections] at hf
  exact (C_2 F _ _ hf).trans (rfl)
theorem l_cGrammar_readSimple (F : Nat) (u : ZC) {res : Int} {uo : ZC} (hf : cGrammar_readSimple F u = some (res, uo)) : cL uo = cL u := by
  have C_4 : ∀ (n : Nat), ∀ (u : ZC) (v1 : Int) (v2 : Int), cGrammar_readSimple_4 F n u v1 v2 = some (res, uo) → cL uo = cL u := by
    intro n
    induction n with
    | zero => intro u v1 v2 hf; cases (show (none : Option (Int × ZC)) = some (res, uo) from hf)
    | succ n ih =>
      intro u v1 v2 hf
      rw [cGrammar_readSimple_4] at hf
      rcases zpp hf with ⟨-, hf⟩ | ⟨-, hf⟩
      · obtain ⟨-, hf⟩ := zg hf
        exact (congrArg cL (congrArg Prod.snd (Option.some.inj hf)).symm).trans (rfl)
      · obtain ⟨p1, u2, l1, hf⟩ := ze2 hf
        have l2 : cL u2 = cL u := l_cGrammar_readRedirections F _ l1
        rcases zpp hf with ⟨-, hf⟩ | ⟨-, hf⟩
        · obtain ⟨p3, l3, hf⟩ := ze1 hf
          rcases zpp hf with ⟨-, hf⟩ | ⟨-, hf⟩
          · exact (ih _ _ _ hf).trans (l2)
          · obtain ⟨-, hf⟩ := zg hf
            exact (congrArg cL (congrArg Prod.snd (Option.some.inj hf)).symm).trans (l2)
        · exact (congrArg cL (congrArg Prod.snd (Option.some.inj hf)).symm).trans (l2)
  rw [cGrammar_readSimple] at hf
  exact (C_4 F _ _ _ hf).trans (rfl)
theorem l_cGrammar_readCommand (F : Nat) (rec : ZC → Int → Option (Int × ZC)) (hrec : ∀ (u : ZC) (v1 : Int) (res : Int) (uo : ZC), rec u v1 = some (res, uo) → cL uo = cL u) (u : ZC) (v1 : Int) {res : Int} {uo : ZC} (hf : cGrammar_readCommand F rec u v1 = some (res, uo)) : cL uo = cL u := by
  rw [cGrammar_readCommand] at hf
  obtain ⟨p1, l1, hf⟩ := ze1 hf
  rcases zpp hf with ⟨-, hf⟩ | ⟨-, hf⟩
  · obtain ⟨p2, u3, l2, hf⟩ := ze2 hf
    have l3 : cL u3 = cL (sI u 3 0 ((cI u 3 0) + 1)) := hrec _ _ _ _ l2
    obtain ⟨b5, l4, hf⟩ := ze1 hf
    rcases zpp hf with ⟨-, hf⟩ | ⟨-, hf⟩
    · exact (congrArg cL (congrArg Prod.snd (Option.some.inj hf)).symm).trans (l3)
    · obtain ⟨p6, u7, l5, hf⟩ := ze2 hf
      have l6 : cL u7 = cL (sI u3 3 0 ((cI u3 3 0) + 1)) := l_cGrammar_readRedirections F _ l5
      obtain ⟨-, hf⟩ := zg hf
      exact (congrArg cL (congrArg Prod.snd (Option.some.inj hf)).symm).trans ((l6).trans (l3))
  · obtain ⟨p8, u9, l7, hf⟩ := ze2 hf
    have l8 : cL u9 = cL u := l_cGrammar_readSimple F _ l7
    obtain ⟨-, hf⟩ := zg hf
    exact (congrArg cL (congrArg Prod.snd (Option.some.inj hf)).symm).trans (l8)
theorem l_cGrammar_readPipeline (F : Nat) (rec : ZC → Int → Option (Int × ZC)) (hrec : ∀ (u : ZC) (v1 : Int) (res : Int) (uo : ZC), rec u v1 = some (res, uo) → cL uo = cL u) (u : ZC) (v1 : Int) {res : Int} {uo : ZC} (hf : cGrammar_readPipeline F rec u v1 = some (res, uo)) : cL uo = cL u := by
  have C_27 : ∀ (n : Nat), ∀ (u : ZC) (v1 : Int) (v2 : Int), cGrammar_readPipeline_27 F rec n u v1 v2 = some (res, uo) → cL uo = cL u := by
    intro n
    induction n with
    | zero => intro u v1 v2 hf; cases (show (none : Option (Int × ZC)) = some (res, uo) from hf)
    | succ n ih =>
      intro u v1 v2 hf
      rw [cGrammar_readPipeline_27] at hf
      rcases zpp hf with ⟨-, hf⟩ | ⟨-, hf⟩
      · exact (congrArg cL (congrArg Prod.snd (Option.some.inj hf)).symm).trans (rfl)
      · obtain ⟨p3, u4, l1, hf⟩ := ze2 hf
        have l2 : cL u4 = cL u := l_cGrammar_readCommand F _ hrec _ _ l1
        rcases zpp hf with ⟨-, hf⟩ | ⟨-, hf⟩
        · obtain ⟨p5, l3, hf⟩ := ze1 hf
          rcases zpp hf with ⟨-, hf⟩ | ⟨-, hf⟩
          · exact (ih _ _ _ hf).trans (l2)
          · exact (congrArg cL (congrArg Prod.snd (Option.some.inj hf)).symm).trans (l2)
        · exact (congrArg cL (congrArg Prod.snd (Option.some.inj hf)).symm).trans (l2)
  rw [cGrammar_readPipeline] at hf
  obtain ⟨p1, l4, hf⟩ := ze1 hf
  obtain ⟨u2, l5, hf⟩ := ze1 hf
  have l6 : cL u2 = cL u := by
    rcases zpp l5 with ⟨-, l5⟩ | ⟨-, l5⟩
    · exact (congrArg cL ((Option.some.inj l5)).symm).trans (rfl)
    · exact (congrArg cL ((Option.some.inj l5)).symm).trans (rfl)
  exact (C_27 F _ _ _ hf).trans (l6)
theorem l_cGrammar_readList (F : Nat) : ∀ (d : Nat), ∀ (u : ZC) (v1 : Int) (res : Int) (uo : ZC), cGrammar_readList F d u v1 = some (res, uo) → cL uo = cL u := by
  intro d
  induction d with
  | zero => intro u v1 res uo hf; cases (show (none : Option (Int × ZC)) = some (res, uo) from hf)
  | succ d ihd =>
    intro u v1 res uo hf
    have C_17 : ∀ (n : Nat), ∀ (u : ZC) (v1 : Int) (v2 : Int), cGrammar_readList_17 F (cGrammar_readList F d) n u v1 v2 = some (res, uo) → cL uo = cL u := by
      intro n
      induction n with
      | zero => intro u v1 v2 hf; cases (show (none : Option (Int × ZC)) = some (res, uo) from hf)
      | succ n ih =>
        intro u v1 v2 hf
        rw [cGrammar_readList_17] at hf
        rcases zpp hf with ⟨-, hf⟩ | ⟨-, hf⟩
        · exact (congrArg cL (congrArg Prod.snd (Option.some.inj hf)).symm).trans (rfl)
        · obtain ⟨p3, l1, hf⟩ := ze1 hf
          rcases zpp hf with ⟨-, hf⟩ | ⟨-, hf⟩
          · obtain ⟨b5, l2, hf⟩ := ze1 hf
            rcases zpp hf with ⟨-, hf⟩ | ⟨-, hf⟩
            · obtain ⟨p6, u7, l3, hf⟩ := ze2 hf
              have l4 : cL u7 = cL (sI u 3 0 ((cI u 3 0) + 1)) := l_cGrammar_readPipeline F _ ihd _ _ l3
              rcases zpp hf with ⟨-, hf⟩ | ⟨-, hf⟩
              · exact (ih _ _ _ hf).trans (l4)
              · exact (congrArg cL (congrArg Prod.snd (Option.some.inj hf)).symm).trans (l4)
            · exact (congrArg cL (congrArg Prod.snd (Option.some.inj hf)).symm).trans (rfl)
          · exact (congrArg cL (congrArg Prod.snd (Option.some.inj hf)).symm).trans (rfl)
    rw [cGrammar_readList] at hf
    rcases zpp hf with ⟨-, hf⟩ | ⟨-, hf⟩
    · exact (congrArg cL (congrArg Prod.snd (Option.some.inj hf)).symm).trans (rfl)
    · obtain ⟨p1, u2, l5, hf⟩ := ze2 hf
      have l6 : cL u2 = cL u := l_cGrammar_readPipeline F _ ihd _ _ l5
      rcases zpp hf with ⟨-, hf⟩ | ⟨-, hf⟩
      · exact (C_17 F _ _ _ hf).trans (l6)
      · exact (congrArg cL (congrArg Prod.snd (Option.some.inj hf)).symm).trans (l6)
theorem l_cGrammar_accepts (F : Nat) (u : ZC) {res : Int} {uo : ZC} (hf : cGrammar_accepts F u = some (res, uo)) : cL uo = cL u := by
  rw [cGrammar_accepts] at hf
  obtain ⟨p1, u2, l1, hf⟩ := ze2 hf
  have l2 : cL u2 = cL u := l_cTokens_cutLine F _ l1
  rcases zpp hf with ⟨-, hf⟩ | ⟨-, hf⟩
  · obtain ⟨x6, u7, l3, hf⟩ := ze2 hf
    have l4 : cL u7 = cL (sI u2 3 0 0) := by
      rcases zpp l3 with ⟨-, l3⟩ | ⟨-, l3⟩
      · exact (congrArg cL (congrArg Prod.snd (Option.some.inj l3)).symm).trans (rfl)
      · obtain ⟨p3, u4, l5, l3⟩ := ze2 l3
        have l6 : cL u4 = cL (sI u2 3 0 0) := l_cGrammar_readList F 6 _ _ _ _ l5
        obtain ⟨b5, l7, l3⟩ := ze1 l3
        rcases zpp l3 with ⟨-, l3⟩ | ⟨-, l3⟩
        · exact (congrArg cL (congrArg Prod.snd (Option.some.inj l3)).symm).trans (l6)
        · exact (congrArg cL (congrArg Prod.snd (Option.some.inj l3)).symm).trans (l6)
    obtain ⟨-, hf⟩ := zg hf
    exact (congrArg cL (congrArg Prod.snd (Option.some.inj hf)).symm).trans ((l4).trans (l2))
  · exact (congrArg cL (congrArg Prod.snd (Option.some.inj hf)).symm).trans (l2)
theorem l_cShell_check (F : Nat) (u : ZC) {res : Int} {uo : ZC} (hf : cShell_check F u = some (res, uo)) : cL uo = cL u := by
  rw [cShell_check] at hf
  obtain ⟨p1, u2, l1, hf⟩ := ze2 hf
  have l2 : cL u2 = cL u := l_cGrammar_accepts F _ l1
  obtain ⟨x4, l3, hf⟩ := ze1 hf
  exact (congrArg cL (congrArg Prod.snd (Option.some.inj hf)).symm).trans (l2)
theorem l_cRunner_forget (F : Nat) (u : ZC) {uo : ZC} (hf : cRunner_forget F u = some uo) : cL uo = cL u := by
  rw [cRunner_forget] at hf
  obtain ⟨-, hf⟩ := zg hf
  obtain ⟨u1, l1, hf⟩ := ze1 hf
  have l2 : cL u1 = cL u := l_cText_clear F _ _ l1
  exact (congrArg cL ((Option.some.inj hf)).symm).trans (l2)
theorem l_cWords_clear (F : Nat) (u : ZC) {uo : ZC} (hf : cWords_clear F u = some uo) : cL uo = cL u := by
  rw [cWords_clear] at hf
  obtain ⟨u1, l1, hf⟩ := ze1 hf
  have l2 : cL u1 = cL u := l_cText_clear F _ _ l1
  exact (congrArg cL ((Option.some.inj hf)).symm).trans (l2)
theorem l_cText_addNumber (F : Nat) (u : ZC) (v0 : Nat) (v1 : Int) {uo : ZC} (hf : cText_addNumber F u v0 v1 = some uo) : cL uo = cL u := by
  have C_20 : ∀ (n : Nat), ∀ (u : ZC) (v0 : Nat) (v1 : Int) (v3 : Int), cText_addNumber_20 F n u v0 v1 v3 = some uo → cL uo = cL u := by
    intro n
    induction n with
    | zero => intro u v0 v1 v3 hf; cases (show (none : Option (ZC)) = some uo from hf)
    | succ n ih =>
      intro u v0 v1 v3 hf
      rw [cText_addNumber_20] at hf
      rcases zpp hf with ⟨-, hf⟩ | ⟨-, hf⟩
      · exact (congrArg cL ((Option.some.inj hf)).symm).trans (rfl)
      · obtain ⟨-, hf⟩ := zg hf
        obtain ⟨-, hf⟩ := zg hf
        obtain ⟨u1, l1, hf⟩ := ze1 hf
        have l2 : cL u1 = cL u := l_cText_add F _ _ _ l1
        exact (ih _ _ _ _ hf).trans (l2)
  have C_2 : ∀ (n : Nat), ∀ (u : ZC) (v0 : Nat) (v1 : Int) (v2 : Int), cText_addNumber_2 F n u v0 v1 v2 = some uo → cL uo = cL u := by
    intro n
    induction n with
    | zero => intro u v0 v1 v2 hf; cases (show (none : Option (ZC)) = some uo from hf)
    | succ n ih =>
      intro u v0 v1 v2 hf
      rw [cText_addNumber_2] at hf
      rcases zpp hf with ⟨-, hf⟩ | ⟨-, hf⟩
      · exact (C_20 F _ _ _ _ hf).trans (rfl)
      · exact (ih _ _ _ _ hf).trans (rfl)
  rw [cText_addNumber] at hf
  exact (C_2 F _ _ _ _ hf).trans (rfl)
theorem l_cWords_add (F : Nat) (u : ZC) (v2 : Int) (v3 : Int) {uo : ZC} (hf : cWords_add F u v2 v3 = some uo) : cL uo = cL u := by
  have C_51 : ∀ (n : Nat), ∀ (u : ZC) (v3 : Int) (v5 : Int) (v6 : Int) (v7 : Int), cWords_add_51 F n u v3 v5 v6 v7 = some uo → cL uo = cL u := by
    intro n
    induction n with
    | zero => intro u v3 v5 v6 v7 hf; cases (show (none : Option (ZC)) = some uo from hf)
    | succ n ih =>
      intro u v3 v5 v6 v7 hf
      rw [cWords_add_51] at hf
      rcases zpp hf with ⟨-, hf⟩ | ⟨-, hf⟩
      · obtain ⟨-, hf⟩ := zg hf
        obtain ⟨u3, l1, hf⟩ := ze1 hf
        have l1 : cL u3 = cL (sI (sA u 4 0 (cI u 10 0).toNat (cI u 0 1)) 10 0 ((cI (sA u 4 0 (cI u 10 0).toNat (cI u 0 1)) 10 0) + 1)) := congrArg cL (Option.some.inj l1).symm
        exact (congrArg cL ((Option.some.inj hf)).symm).trans (l1)
      · obtain ⟨-, hf⟩ := zg hf
        obtain ⟨x8, x9, u10, l2, hf⟩ := ze3 hf
        have l3 : cL u10 = cL u := by
          rcases zpp l2 with ⟨-, l2⟩ | ⟨-, l2⟩
          · obtain ⟨b4, l4, l2⟩ := ze1 l2
            rcases zpp l2 with ⟨-, l2⟩ | ⟨-, l2⟩
            · obtain ⟨u5, l5, l2⟩ := ze1 l2
              have l6 : cL u5 = cL u := l_cText_add F _ _ _ l5
              exact (congrArg cL (congrArg (fun x => x.2.2) (Option.some.inj l2)).symm).trans (l6)
            · obtain ⟨u6, l7, l2⟩ := ze1 l2
              have l8 : cL u6 = cL u := l_cText_addNumber F _ _ _ l7
              exact (congrArg cL (congrArg (fun x => x.2.2) (Option.some.inj l2)).symm).trans (l8)
          · obtain ⟨x7, l9, l2⟩ := ze1 l2
            exact (congrArg cL (congrArg (fun x => x.2.2) (Option.some.inj l2)).symm).trans (rfl)
        exact (ih _ _ _ _ _ hf).trans (l3)
  rw [cWords_add] at hf
  obtain ⟨p1, l10, hf⟩ := ze1 hf
  obtain ⟨b2, l11, hf⟩ := ze1 hf
  rcases zpp hf with ⟨-, hf⟩ | ⟨-, hf⟩
  · exact (congrArg cL ((Option.some.inj hf)).symm).trans (rfl)
  · obtain ⟨-, hf⟩ := zg hf
    exact (C_51 F _ _ _ _ _ hf).trans (rfl)
theorem l_cTree_followPiece (F : Nat) (u : ZC) (v1 : Int64) (v3 : Int) (v4 : Int) {uo : ZC} (hf : cTree_followPiece F u v1 v3 v4 = some uo) : cL uo = cL u := by
  have C_116 : ∀ (n : Nat), ∀ (u : ZC) (v5 : Option Nat) (v6 : Option Nat), cTree_followPiece_116 F n u v5 v6 = some uo → cL uo = cL u := by
    intro n
    induction n with
    | zero => intro u v5 v6 hf; cases (show (none : Option (ZC)) = some uo from hf)
    | succ n ih =>
      intro u v5 v6 hf
      rw [cTree_followPiece_116] at hf
      rcases zel hf with ⟨-, hf⟩ | ⟨n16, -, hf⟩
      · obtain ⟨o17, l1, hf⟩ := ze1 hf
        obtain ⟨x19, l2, hf⟩ := ze1 hf
        exact (congrArg cL ((Option.some.inj hf)).symm).trans (rfl)
      · obtain ⟨-, hf⟩ := zg hf
        obtain ⟨o20, l3, hf⟩ := ze1 hf
        obtain ⟨u22, l4, hf⟩ := ze1 hf
        have l5 : cL u22 = cL u := by
          obtain ⟨b21, l6, l4⟩ := ze1 l4
          rcases zpp l4 with ⟨-, l4⟩ | ⟨-, l4⟩
          · exact (congrArg cL ((Option.some.inj l4)).symm).trans (rfl)
          · exact (congrArg cL ((Option.some.inj l4)).symm).trans (rfl)
        obtain ⟨-, hf⟩ := zg hf
        obtain ⟨o23, l7, hf⟩ := ze1 hf
        exact (ih _ _ _ hf).trans (l5)
  rw [cTree_followPiece] at hf
  obtain ⟨b1, l8, hf⟩ := ze1 hf
  rcases zpp hf with ⟨-, hf⟩ | ⟨-, hf⟩
  · exact (congrArg cL ((Option.some.inj hf)).symm).trans (rfl)
  · obtain ⟨o2, l9, hf⟩ := ze1 hf
    obtain ⟨b6, l10, hf⟩ := ze1 hf
    rcases zpp hf with ⟨-, hf⟩ | ⟨-, hf⟩
    · exact (congrArg cL ((Option.some.inj hf)).symm).trans (rfl)
    · obtain ⟨b7, l11, hf⟩ := ze1 hf
      rcases zpp hf with ⟨-, hf⟩ | ⟨-, hf⟩
      · obtain ⟨b8, l12, hf⟩ := ze1 hf
        rcases zpp hf with ⟨-, hf⟩ | ⟨-, hf⟩
        · exact (congrArg cL ((Option.some.inj hf)).symm).trans (rfl)
        · obtain ⟨u9, l13, hf⟩ := ze1 hf
          have l13 : cL u9 = cL (sJ (sP (sP u 2 0 none) 3 0 none) 1 0 (zlshl v1 (8 * (7 - v3)))) := congrArg cL (Option.some.inj l13).symm
          obtain ⟨o10, l14, hf⟩ := ze1 hf
          exact (C_116 F _ _ _ hf).trans (l13)
      · obtain ⟨n11, -, hf⟩ := zes hf
        obtain ⟨-, hf⟩ := zg hf
        obtain ⟨o12, l15, hf⟩ := ze1 hf
        obtain ⟨x15, l16, hf⟩ := ze1 hf
        exact (congrArg cL ((Option.some.inj hf)).symm).trans (rfl)
theorem l_cTree_follow (F : Nat) (u : ZC) (v2 : Int) {res : Option Nat} {uo : ZC} (hf : cTree_follow F u v2 = some (res, uo)) : cL uo = cL u := by
  have C_71 : ∀ (n : Nat), ∀ (u : ZC) (v5 : Int) (v6 : Int64) (v8 : Int) (v9 : Int) (v10 : Int), cTree_follow_71 F n u v5 v6 v8 v9 v10 = some (res, uo) → cL uo = cL u := by
    intro n
    induction n with
    | zero => intro u v5 v6 v8 v9 v10 hf; cases (show (none : Option (Option Nat × ZC)) = some (res, uo) from hf)
    | succ n ih =>
      intro u v5 v6 v8 v9 v10 hf
      rw [cTree_follow_71] at hf
      rcases zpp hf with ⟨-, hf⟩ | ⟨-, hf⟩
      · obtain ⟨o6, l1, hf⟩ := ze1 hf
        exact (congrArg cL (congrArg Prod.snd (Option.some.inj hf)).symm).trans (rfl)
      · obtain ⟨x12, x13, x14, u15, l2, hf⟩ := ze4 hf
        have l3 : cL u15 = cL u := by
          obtain ⟨b7, l4, l2⟩ := ze1 l2
          rcases zpp l2 with ⟨-, l2⟩ | ⟨-, l2⟩
          · obtain ⟨u8, l5, l2⟩ := ze1 l2
            have l6 : cL u8 = cL u := l_cTree_followPiece F _ _ _ _ l5
            exact (congrArg cL (congrArg (fun x => x.2.2.2) (Option.some.inj l2)).symm).trans (l6)
          · obtain ⟨-, l2⟩ := zg l2
            obtain ⟨x11, l7, l2⟩ := ze1 l2
            exact (congrArg cL (congrArg (fun x => x.2.2.2) (Option.some.inj l2)).symm).trans (rfl)
        exact (ih _ _ _ _ _ _ hf).trans (l3)
  rw [cTree_follow] at hf
  obtain ⟨p1, l8, hf⟩ := ze1 hf
  obtain ⟨p2, l9, hf⟩ := ze1 hf
  obtain ⟨x5, l10, hf⟩ := ze1 hf
  exact (C_71 F _ _ _ _ _ _ hf).trans (rfl)
theorem l_cText_addPiece (F : Nat) (u : ZC) (v0 : Nat) (v1 : Nat) (v2 : Int) (v3 : Int) {res : Int} {uo : ZC} (hf : cText_addPiece F u v0 v1 v2 v3 = some (res, uo)) : cL uo = cL u := by
  rw [cText_addPiece] at hf
  obtain ⟨b1, l1, hf⟩ := ze1 hf
  rcases zpp hf with ⟨-, hf⟩ | ⟨-, hf⟩
  · obtain ⟨-, hf⟩ := zg hf
    exact (congrArg cL (congrArg Prod.snd (Option.some.inj hf)).symm).trans (rfl)
  · obtain ⟨-, hf⟩ := zg hf
    obtain ⟨-, hf⟩ := zg hf
    obtain ⟨-, hf⟩ := zg hf
    obtain ⟨u2, l2, hf⟩ := ze1 hf
    have l2 : cL u2 = cL (sI (sCopy u v1 v2.toNat v0 (cI u 0 v0).toNat (v3 - v2).toNat) 0 v0 ((cI (sCopy u v1 v2.toNat v0 (cI u 0 v0).toNat (v3 - v2).toNat) 0 v0) + (v3 - v2))) := congrArg cL (Option.some.inj l2).symm
    exact (congrArg cL (congrArg Prod.snd (Option.some.inj hf)).symm).trans (l2)
theorem l_cText_addAll (F : Nat) (u : ZC) (v0 : Nat) (v1 : Nat) {res : Int} {uo : ZC} (hf : cText_addAll F u v0 v1 = some (res, uo)) : cL uo = cL u := by
  rw [cText_addAll] at hf
  obtain ⟨-, hf⟩ := zg hf
  obtain ⟨-, hf⟩ := zg hf
  obtain ⟨p1, u2, l1, hf⟩ := ze2 hf
  have l2 : cL u2 = cL u := l_cText_addPiece F _ _ _ _ _ l1
  obtain ⟨-, hf⟩ := zg hf
  exact (congrArg cL (congrArg Prod.snd (Option.some.inj hf)).symm).trans (l2)
theorem l_cRunner_redirectInput (F : Nat) (u : ZC) (v1 : Nat) {res : Int} {uo : ZC} (hf : cRunner_redirectInput F u v1 = some (res, uo)) : cL uo = cL u := by
  rw [cRunner_redirectInput] at hf
  obtain ⟨o1, l1, hf⟩ := ze1 hf
  obtain ⟨b5, l2, hf⟩ := ze1 hf
  rcases zpp hf with ⟨-, hf⟩ | ⟨-, hf⟩
  · exact (congrArg cL (congrArg Prod.snd (Option.some.inj hf)).symm).trans (rfl)
  · obtain ⟨-, hf⟩ := zg hf
    obtain ⟨u6, l3, hf⟩ := ze1 hf
    have l4 : cL u6 = cL u := l_cText_clear F _ _ l3
    obtain ⟨n7, -, hf⟩ := zes hf
    obtain ⟨-, hf⟩ := zg hf
    obtain ⟨o8, l5, hf⟩ := ze1 hf
    obtain ⟨n9, -, hf⟩ := zes hf
    obtain ⟨p10, u11, l6, hf⟩ := ze2 hf
    have l7 : cL u11 = cL u6 := l_cText_addAll F _ _ _ l6
    exact (congrArg cL (congrArg Prod.snd (Option.some.inj hf)).symm).trans ((l7).trans (l4))
theorem l_cTree_empty (F : Nat) (u : ZC) (v1 : Nat) {uo : ZC} (hf : cTree_empty F u v1 = some uo) : cL uo = cL u := by
  rw [cTree_empty] at hf
  obtain ⟨-, hf⟩ := zg hf
  obtain ⟨u1, l1, hf⟩ := ze1 hf
  have l2 : cL u1 = cL (sI u 7 0 ((cI u 7 0) - (cI u 0 v1))) := l_cText_clear F _ _ l1
  exact (congrArg cL ((Option.some.inj hf)).symm).trans (l2)
theorem l_cRunner_takeWords (F : Nat) (u : ZC) (v1 : Int) (v2 : Int) {uo : ZC} (hf : cRunner_takeWords F u v1 v2 = some uo) : cL uo = cL u := by
  have C_9 : ∀ (n : Nat), ∀ (u : ZC) (v2 : Int) (v3 : Int), cRunner_takeWords_9 F n u v2 v3 = some uo → cL uo = cL u := by
    intro n
    induction n with
    | zero => intro u v2 v3 hf; cases (show (none : Option (ZC)) = some uo from hf)
    | succ n ih =>
      intro u v2 v3 hf
      rw [cRunner_takeWords_9] at hf
      rcases zpp hf with ⟨-, hf⟩ | ⟨-, hf⟩
      · exact (congrArg cL ((Option.some.inj hf)).symm).trans (rfl)
      · obtain ⟨p2, l1, hf⟩ := ze1 hf
        obtain ⟨u4, l2, hf⟩ := ze1 hf
        have l3 : cL u4 = cL u := by
          rcases zpp l2 with ⟨-, l2⟩ | ⟨-, l2⟩
          · exact (congrArg cL ((Option.some.inj l2)).symm).trans (rfl)
          · obtain ⟨u3, l4, l2⟩ := ze1 l2
            have l5 : cL u3 = cL u := l_cWords_add F _ _ _ l4
            exact (congrArg cL ((Option.some.inj l2)).symm).trans (l5)
        exact (ih _ _ _ hf).trans (l3)
  rw [cRunner_takeWords] at hf
  obtain ⟨u1, l6, hf⟩ := ze1 hf
  have l7 : cL u1 = cL u := l_cWords_clear F _ l6
  exact (C_9 F _ _ _ hf).trans (l7)
theorem l_cTools_echo (F : Nat) (u : ZC) (v1 : Nat) {res : Int} {uo : ZC} (hf : cTools_echo F u v1 = some (res, uo)) : cL uo = cL u := by
  have C_24 : ∀ (n : Nat), ∀ (u : ZC) (v1 : Nat) (v2 : Int) (v3 : Int) (v4 : Int), cTools_echo_24 F n u v1 v2 v3 v4 = some (res, uo) → cL uo = cL u := by
    intro n
    induction n with
    | zero => intro u v1 v2 v3 v4 hf; cases (show (none : Option (Int × ZC)) = some (res, uo) from hf)
    | succ n ih =>
      intro u v1 v2 v3 v4 hf
      rw [cTools_echo_24] at hf
      rcases zpp hf with ⟨-, hf⟩ | ⟨-, hf⟩
      · obtain ⟨u4, l1, hf⟩ := ze1 hf
        have l2 : cL u4 = cL u := by
          rcases zpp l1 with ⟨-, l1⟩ | ⟨-, l1⟩
          · exact (congrArg cL ((Option.some.inj l1)).symm).trans (rfl)
          · obtain ⟨-, l1⟩ := zg l1
            obtain ⟨u3, l3, l1⟩ := ze1 l1
            have l4 : cL u3 = cL u := l_cText_add F _ _ _ l3
            exact (congrArg cL ((Option.some.inj l1)).symm).trans (l4)
        exact (congrArg cL (congrArg Prod.snd (Option.some.inj hf)).symm).trans (l2)
      · obtain ⟨u6, l5, hf⟩ := ze1 hf
        have l6 : cL u6 = cL u := by
          rcases zpp l5 with ⟨-, l5⟩ | ⟨-, l5⟩
          · exact (congrArg cL ((Option.some.inj l5)).symm).trans (rfl)
          · obtain ⟨-, l5⟩ := zg l5
            obtain ⟨u5, l7, l5⟩ := ze1 l5
            have l8 : cL u5 = cL u := l_cText_add F _ _ _ l7
            exact (congrArg cL ((Option.some.inj l5)).symm).trans (l8)
        obtain ⟨p7, l9, hf⟩ := ze1 hf
        obtain ⟨p8, l10, hf⟩ := ze1 hf
        obtain ⟨-, hf⟩ := zg hf
        obtain ⟨p9, u10, l11, hf⟩ := ze2 hf
        have l12 : cL u10 = cL u6 := l_cText_addPiece F _ _ _ _ _ l11
        exact (ih _ _ _ _ _ hf).trans ((l12).trans (l6))
  rw [cTools_echo] at hf
  obtain ⟨p1, l13, hf⟩ := ze1 hf
  obtain ⟨x2, l14, hf⟩ := ze1 hf
  exact (C_24 F _ _ _ _ _ hf).trans (rfl)
theorem l_cTools_cat (F : Nat) (u : ZC) (v1 : Nat) (v2 : Nat) {res : Int} {uo : ZC} (hf : cTools_cat F u v1 v2 = some (res, uo)) : cL uo = cL u := by
  have C_64 : ∀ (n : Nat), ∀ (u : ZC) (v2 : Nat) (v3 : Int), cTools_cat_64 F n u v2 v3 = some (res, uo) → cL uo = cL u := by
    intro n
    induction n with
    | zero => intro u v2 v3 hf; cases (show (none : Option (Int × ZC)) = some (res, uo) from hf)
    | succ n ih =>
      intro u v2 v3 hf
      rw [cTools_cat_64] at hf
      rcases zpp hf with ⟨-, hf⟩ | ⟨-, hf⟩
      · exact (congrArg cL (congrArg Prod.snd (Option.some.inj hf)).symm).trans (rfl)
      · obtain ⟨p8, u9, l1, hf⟩ := ze2 hf
        have l2 : cL u9 = cL u := l_cTree_follow F _ _ l1
        obtain ⟨p10, l3, hf⟩ := ze1 hf
        obtain ⟨u14, l4, hf⟩ := ze1 hf
        have l5 : cL u14 = cL u9 := by
          rcases zel l4 with ⟨-, l4⟩ | ⟨n11, -, l4⟩
          · exact (congrArg cL ((Option.some.inj l4)).symm).trans (rfl)
          · obtain ⟨-, l4⟩ := zg l4
            obtain ⟨p12, u13, l6, l4⟩ := ze2 l4
            have l7 : cL u13 = cL u9 := l_cText_addAll F _ _ _ l6
            exact (congrArg cL ((Option.some.inj l4)).symm).trans (l7)
        exact (ih _ _ _ hf).trans ((l5).trans (l2))
  have C_25 : ∀ (n : Nat), ∀ (u : ZC) (v2 : Nat) (v3 : Int), cTools_cat_25 F n u v2 v3 = some (res, uo) → cL uo = cL u := by
    intro n
    induction n with
    | zero => intro u v2 v3 hf; cases (show (none : Option (Int × ZC)) = some (res, uo) from hf)
    | succ n ih =>
      intro u v2 v3 hf
      rw [cTools_cat_25] at hf
      rcases zpp hf with ⟨-, hf⟩ | ⟨-, hf⟩
      · exact (C_64 F _ _ _ hf).trans (rfl)
      · obtain ⟨p4, u5, l8, hf⟩ := ze2 hf
        have l9 : cL u5 = cL u := l_cTree_follow F _ _ l8
        obtain ⟨p6, l10, hf⟩ := ze1 hf
        rcases zel hf with ⟨-, hf⟩ | ⟨n7, -, hf⟩
        · exact (congrArg cL (congrArg Prod.snd (Option.some.inj hf)).symm).trans (l9)
        · exact (ih _ _ _ hf).trans (l9)
  rw [cTools_cat] at hf
  rcases zpp hf with ⟨-, hf⟩ | ⟨-, hf⟩
  · exact (C_25 F _ _ _ hf).trans (rfl)
  · obtain ⟨-, hf⟩ := zg hf
    obtain ⟨p1, u2, l11, hf⟩ := ze2 hf
    have l12 : cL u2 = cL u := l_cText_addAll F _ _ _ l11
    obtain ⟨-, hf⟩ := zg hf
    obtain ⟨u3, l13, hf⟩ := ze1 hf
    have l14 : cL u3 = cL u2 := l_cText_clear F _ _ l13
    exact (congrArg cL (congrArg Prod.snd (Option.some.inj hf)).symm).trans ((l14).trans (l12))
theorem l_cTools_wc (F : Nat) (u : ZC) (v1 : Nat) (v2 : Nat) {res : Int} {uo : ZC} (hf : cTools_wc F u v1 v2 = some (res, uo)) : cL uo = cL u := by
  have C_74 : ∀ (n : Nat), ∀ (u : ZC) (v1 : Nat) (v2 : Nat) (v3 : Int) (v4 : Nat) (v5 : Int) (v6 : Int) (v7 : Int) (v8 : Int), cTools_wc_74 F n u v1 v2 v3 v4 v5 v6 v7 v8 = some (res, uo) → cL uo = cL u := by
    intro n
    induction n with
    | zero => intro u v1 v2 v3 v4 v5 v6 v7 v8 hf; cases (show (none : Option (Int × ZC)) = some (res, uo) from hf)
    | succ n ih =>
      intro u v1 v2 v3 v4 v5 v6 v7 v8 hf
      rw [cTools_wc_74] at hf
      obtain ⟨-, hf⟩ := zg hf
      rcases zpp hf with ⟨-, hf⟩ | ⟨-, hf⟩
      · obtain ⟨-, hf⟩ := zg hf
        obtain ⟨u8, l1, hf⟩ := ze1 hf
        have l2 : cL u8 = cL u := l_cText_addNumber F _ _ _ l1
        obtain ⟨-, hf⟩ := zg hf
        obtain ⟨u9, l3, hf⟩ := ze1 hf
        have l4 : cL u9 = cL u8 := l_cText_add F _ _ _ l3
        obtain ⟨-, hf⟩ := zg hf
        obtain ⟨u10, l5, hf⟩ := ze1 hf
        have l6 : cL u10 = cL u9 := l_cText_addNumber F _ _ _ l5
        obtain ⟨-, hf⟩ := zg hf
        obtain ⟨u11, l7, hf⟩ := ze1 hf
        have l8 : cL u11 = cL u10 := l_cText_add F _ _ _ l7
        obtain ⟨-, hf⟩ := zg hf
        obtain ⟨-, hf⟩ := zg hf
        obtain ⟨u12, l9, hf⟩ := ze1 hf
        have l10 : cL u12 = cL u11 := l_cText_addNumber F _ _ _ l9
        obtain ⟨-, hf⟩ := zg hf
        obtain ⟨u13, l11, hf⟩ := ze1 hf
        have l12 : cL u13 = cL u12 := l_cText_add F _ _ _ l11
        obtain ⟨u15, l13, hf⟩ := ze1 hf
        have l14 : cL u15 = cL u13 := by
          rcases zpp l13 with ⟨-, l13⟩ | ⟨-, l13⟩
          · exact (congrArg cL ((Option.some.inj l13)).symm).trans (rfl)
          · obtain ⟨-, l13⟩ := zg l13
            obtain ⟨u14, l15, l13⟩ := ze1 l13
            have l16 : cL u14 = cL u13 := l_cText_clear F _ _ l15
            exact (congrArg cL ((Option.some.inj l13)).symm).trans (l16)
        exact (congrArg cL (congrArg Prod.snd (Option.some.inj hf)).symm).trans ((l14).trans ((l12).trans ((l10).trans ((l8).trans ((l6).trans ((l4).trans (l2)))))))
      · obtain ⟨-, hf⟩ := zg hf
        obtain ⟨x17, l17, hf⟩ := ze1 hf
        obtain ⟨x18, l18, hf⟩ := ze1 hf
        obtain ⟨x20, l19, hf⟩ := ze1 hf
        exact (ih _ _ _ _ _ _ _ _ _ hf).trans (rfl)
  rw [cTools_wc] at hf
  rcases zpp hf with ⟨-, hf⟩ | ⟨-, hf⟩
  · obtain ⟨x1, l20, hf⟩ := ze1 hf
    obtain ⟨x5, u6, l21, hf⟩ := ze2 hf
    have l22 : cL u6 = cL u := by
      rcases zpp l21 with ⟨-, l21⟩ | ⟨-, l21⟩
      · obtain ⟨p2, u3, l23, l21⟩ := ze2 l21
        have l24 : cL u3 = cL u := l_cTree_follow F _ _ l23
        obtain ⟨p4, l25, l21⟩ := ze1 l21
        exact (congrArg cL (congrArg Prod.snd (Option.some.inj l21)).symm).trans (l24)
      · exact (congrArg cL (congrArg Prod.snd (Option.some.inj l21)).symm).trans (rfl)
    rcases zel hf with ⟨-, hf⟩ | ⟨n7, -, hf⟩
    · exact (congrArg cL (congrArg Prod.snd (Option.some.inj hf)).symm).trans (l22)
    · exact (C_74 F _ _ _ _ _ _ _ _ _ hf).trans (l22)
  · exact (congrArg cL (congrArg Prod.snd (Option.some.inj hf)).symm).trans (rfl)
theorem l_cTools_grep (F : Nat) (u : ZC) (v1 : Nat) (v2 : Nat) {res : Int} {uo : ZC} (hf : cTools_grep F u v1 v2 = some (res, uo)) : cL uo = cL u := by
  have C_116 : ∀ (n : Nat), ∀ (u : ZC) (v1 : Nat) (v2 : Nat) (v3 : Int) (v4 : Int) (v5 : Int) (v6 : Nat) (v7 : Int) (v8 : Int) (v9 : Int), cTools_grep_116 F n u v1 v2 v3 v4 v5 v6 v7 v8 v9 = some (res, uo) → cL uo = cL u := by
    intro n
    induction n with
    | zero => intro u v1 v2 v3 v4 v5 v6 v7 v8 v9 hf; cases (show (none : Option (Int × ZC)) = some (res, uo) from hf)
    | succ n ih =>
      intro u v1 v2 v3 v4 v5 v6 v7 v8 v9 hf
      rw [cTools_grep_116] at hf
      obtain ⟨-, hf⟩ := zg hf
      rcases zpp hf with ⟨-, hf⟩ | ⟨-, hf⟩
      · obtain ⟨u12, l1, hf⟩ := ze1 hf
        have l2 : cL u12 = cL u := by
          rcases zpp l1 with ⟨-, l1⟩ | ⟨-, l1⟩
          · exact (congrArg cL ((Option.some.inj l1)).symm).trans (rfl)
          · obtain ⟨-, l1⟩ := zg l1
            obtain ⟨u11, l3, l1⟩ := ze1 l1
            have l4 : cL u11 = cL u := l_cText_clear F _ _ l3
            exact (congrArg cL ((Option.some.inj l1)).symm).trans (l4)
        exact (congrArg cL (congrArg Prod.snd (Option.some.inj hf)).symm).trans (l2)
      · obtain ⟨x13, l5, hf⟩ := ze1 hf
        obtain ⟨x19, u20, l6, hf⟩ := ze2 hf
        have l7 : cL u20 = cL u := by
          obtain ⟨b15, l8, l6⟩ := ze1 l6
          rcases zpp l6 with ⟨-, l6⟩ | ⟨-, l6⟩
          · exact (congrArg cL (congrArg Prod.snd (Option.some.inj l6)).symm).trans (rfl)
          · obtain ⟨-, l6⟩ := zg l6
            obtain ⟨p16, u17, l9, l6⟩ := ze2 l6
            have l10 : cL u17 = cL u := l_cText_addPiece F _ _ _ _ _ l9
            obtain ⟨-, l6⟩ := zg l6
            obtain ⟨u18, l11, l6⟩ := ze1 l6
            have l12 : cL u18 = cL u17 := l_cText_add F _ _ _ l11
            exact (congrArg cL (congrArg Prod.snd (Option.some.inj l6)).symm).trans ((l12).trans (l10))
        obtain ⟨x21, l13, hf⟩ := ze1 hf
        exact (ih _ _ _ _ _ _ _ _ _ _ hf).trans (l7)
  rw [cTools_grep] at hf
  obtain ⟨p1, l14, hf⟩ := ze1 hf
  obtain ⟨x2, l15, hf⟩ := ze1 hf
  obtain ⟨b3, l16, hf⟩ := ze1 hf
  rcases zpp hf with ⟨-, hf⟩ | ⟨-, hf⟩
  · exact (congrArg cL (congrArg Prod.snd (Option.some.inj hf)).symm).trans (rfl)
  · obtain ⟨x4, l17, hf⟩ := ze1 hf
    obtain ⟨x8, u9, l18, hf⟩ := ze2 hf
    have l19 : cL u9 = cL u := by
      rcases zpp l18 with ⟨-, l18⟩ | ⟨-, l18⟩
      · obtain ⟨p5, u6, l20, l18⟩ := ze2 l18
        have l21 : cL u6 = cL u := l_cTree_follow F _ _ l20
        obtain ⟨p7, l22, l18⟩ := ze1 l18
        exact (congrArg cL (congrArg Prod.snd (Option.some.inj l18)).symm).trans (l21)
      · exact (congrArg cL (congrArg Prod.snd (Option.some.inj l18)).symm).trans (rfl)
    rcases zel hf with ⟨-, hf⟩ | ⟨n10, -, hf⟩
    · exact (congrArg cL (congrArg Prod.snd (Option.some.inj hf)).symm).trans (l19)
    · exact (C_116 F _ _ _ _ _ _ _ _ _ _ hf).trans (l19)
theorem l_cTools_ls (F : Nat) (u : ZC) (v1 : Nat) {res : Int} {uo : ZC} (hf : cTools_ls F u v1 = some (res, uo)) : cL uo = cL u := by
  have C_89 : ∀ (n : Nat), ∀ (u : ZC) (v1 : Nat) (v2 : Nat) (v3 : Option Nat) (v4 : Int), cTools_ls_89 F n u v1 v2 v3 v4 = some (res, uo) → cL uo = cL u := by
    intro n
    induction n with
    | zero => intro u v1 v2 v3 v4 hf; cases (show (none : Option (Int × ZC)) = some (res, uo) from hf)
    | succ n ih =>
      intro u v1 v2 v3 v4 hf
      rw [cTools_ls_89] at hf
      obtain ⟨b13, l1, hf⟩ := ze1 hf
      rcases zpp hf with ⟨-, hf⟩ | ⟨-, hf⟩
      · exact (congrArg cL (congrArg Prod.snd (Option.some.inj hf)).symm).trans (rfl)
      · obtain ⟨n14, -, hf⟩ := zes hf
        obtain ⟨-, hf⟩ := zg hf
        obtain ⟨-, hf⟩ := zg hf
        obtain ⟨u15, l2, hf⟩ := ze1 hf
        have l3 : cL u15 = cL u := l_cText_addPacked F _ _ _ l2
        obtain ⟨-, hf⟩ := zg hf
        obtain ⟨o16, l4, hf⟩ := ze1 hf
        obtain ⟨u19, l5, hf⟩ := ze1 hf
        have l6 : cL u19 = cL u15 := by
          rcases zel l5 with ⟨-, l5⟩ | ⟨n17, -, l5⟩
          · obtain ⟨-, l5⟩ := zg l5
            obtain ⟨u18, l7, l5⟩ := ze1 l5
            have l8 : cL u18 = cL u15 := l_cText_add F _ _ _ l7
            exact (congrArg cL ((Option.some.inj l5)).symm).trans (l8)
          · exact (congrArg cL ((Option.some.inj l5)).symm).trans (rfl)
        obtain ⟨-, hf⟩ := zg hf
        obtain ⟨u20, l9, hf⟩ := ze1 hf
        have l10 : cL u20 = cL u19 := l_cText_add F _ _ _ l9
        obtain ⟨-, hf⟩ := zg hf
        obtain ⟨p21, l11, hf⟩ := ze1 hf
        exact (ih _ _ _ _ _ hf).trans ((l10).trans ((l6).trans (l3)))
  rw [cTools_ls] at hf
  rcases zpp hf with ⟨-, hf⟩ | ⟨-, hf⟩
  · obtain ⟨x4, u5, l12, hf⟩ := ze2 hf
    have l13 : cL u5 = cL u := by
      rcases zpp l12 with ⟨-, l12⟩ | ⟨-, l12⟩
      · obtain ⟨p1, u2, l14, l12⟩ := ze2 l12
        have l15 : cL u2 = cL u := l_cTree_follow F _ _ l14
        exact (congrArg cL (congrArg Prod.snd (Option.some.inj l12)).symm).trans (l15)
      · obtain ⟨o3, l16, l12⟩ := ze1 l12
        exact (congrArg cL (congrArg Prod.snd (Option.some.inj l12)).symm).trans (rfl)
    rcases zel hf with ⟨-, hf⟩ | ⟨n6, -, hf⟩
    · exact (congrArg cL (congrArg Prod.snd (Option.some.inj hf)).symm).trans (l13)
    · obtain ⟨-, hf⟩ := zg hf
      obtain ⟨o7, l17, hf⟩ := ze1 hf
      rcases zel hf with ⟨-, hf⟩ | ⟨n8, -, hf⟩
      · obtain ⟨p9, l18, hf⟩ := ze1 hf
        exact (C_89 F _ _ _ _ _ hf).trans (l13)
      · obtain ⟨-, hf⟩ := zg hf
        obtain ⟨u10, l19, hf⟩ := ze1 hf
        have l20 : cL u10 = cL u5 := l_cText_addPacked F _ _ _ l19
        obtain ⟨-, hf⟩ := zg hf
        obtain ⟨u11, l21, hf⟩ := ze1 hf
        have l22 : cL u11 = cL u10 := l_cText_add F _ _ _ l21
        exact (congrArg cL (congrArg Prod.snd (Option.some.inj hf)).symm).trans ((l22).trans ((l20).trans (l13)))
  · exact (congrArg cL (congrArg Prod.snd (Option.some.inj hf)).symm).trans (rfl)
theorem l_cTools_cd (F : Nat) (u : ZC) {res : Int} {uo : ZC} (hf : cTools_cd F u = some (res, uo)) : cL uo = cL u := by
  rw [cTools_cd] at hf
  rcases zpp hf with ⟨-, hf⟩ | ⟨-, hf⟩
  · obtain ⟨x3, u4, l1, hf⟩ := ze2 hf
    have l2 : cL u4 = cL u := by
      rcases zpp l1 with ⟨-, l1⟩ | ⟨-, l1⟩
      · obtain ⟨p1, u2, l3, l1⟩ := ze2 l1
        have l4 : cL u2 = cL u := l_cTree_follow F _ _ l3
        exact (congrArg cL (congrArg Prod.snd (Option.some.inj l1)).symm).trans (l4)
      · exact (congrArg cL (congrArg Prod.snd (Option.some.inj l1)).symm).trans (rfl)
    obtain ⟨b8, l5, hf⟩ := ze1 hf
    rcases zpp hf with ⟨-, hf⟩ | ⟨-, hf⟩
    · exact (congrArg cL (congrArg Prod.snd (Option.some.inj hf)).symm).trans (l2)
    · exact (congrArg cL (congrArg Prod.snd (Option.some.inj hf)).symm).trans (l2)
  · exact (congrArg cL (congrArg Prod.snd (Option.some.inj hf)).symm).trans (rfl)
theorem l_cTree_append (F : Nat) (u : ZC) (v1 : Nat) (v2 : Nat) {res : Int} {uo : ZC} (hf : cTree_append F u v1 v2 = some (res, uo)) : cL uo = cL u := by
  rw [cTree_append] at hf
  obtain ⟨-, hf⟩ := zg hf
  rcases zpp hf with ⟨-, hf⟩ | ⟨-, hf⟩
  · exact (congrArg cL (congrArg Prod.snd (Option.some.inj hf)).symm).trans (rfl)
  · obtain ⟨-, hf⟩ := zg hf
    obtain ⟨p1, u2, l1, hf⟩ := ze2 hf
    have l2 : cL u2 = cL u := l_cText_addAll F _ _ _ l1
    rcases zpp hf with ⟨-, hf⟩ | ⟨-, hf⟩
    · obtain ⟨-, hf⟩ := zg hf
      exact (congrArg cL (congrArg Prod.snd (Option.some.inj hf)).symm).trans (l2)
    · exact (congrArg cL (congrArg Prod.snd (Option.some.inj hf)).symm).trans (l2)
