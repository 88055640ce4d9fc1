/-! the list of what lives only grows -/
def zgr (u w : ZC) : Prop := ∃ l, cL w = cL u ++ l
theorem zgr_rf (u : ZC) : zgr u u := ⟨[], (List.append_nil _).symm⟩
theorem zgr_tr {u v w : ZC} (a : zgr u v) (b : zgr v w) : zgr u w := by
  obtain ⟨l, h⟩ := a
  obtain ⟨l2, h2⟩ := b
  exact ⟨l ++ l2, by rw [h2, h, List.append_assoc]⟩
theorem zgr_q {u w : ZC} (h : cL w = cL u) : zgr u w := ⟨[], by rw [h, List.append_nil]⟩
theorem zgr_e {u w x : ZC} (a : zgr u w) (h : cL x = cL w) : zgr u x := by
  obtain ⟨l, h2⟩ := a
  exact ⟨l, by rw [h, h2]⟩
theorem zgr_f {u w x y : ZC} (a : zgr u w) (h : x = y) (e : cL y = cL w) : zgr u x := by
  subst h
  exact zgr_e a e
theorem zgr_le {u w : ZC} (a : zgr u w) : (cL u).length ≤ (cL w).length := by
  obtain ⟨l, h⟩ := a
  rw [h, List.length_append]
  exact Nat.le_add_right _ _
theorem zgr_mem {u w : ZC} (a : zgr u w) {i : Nat × Nat} (hi : i ∈ cL u) : i ∈ cL w := by
  obtain ⟨l, h⟩ := a
  rw [h]
  exact List.mem_append_left _ hi
theorem l_cTree_make (F : Nat) (u : ZC) (v1 : Int) {res : Option Nat} {uo : ZC} (hf : cTree_make F u v1 = some (res, uo)) : zgr u uo := by
  unfold cTree_make at hf
  rcases zel hf with ⟨-, hf⟩ | ⟨p, -, hf⟩
  · cases hf
    exact zgr_rf _
  · rcases zpp hf with ⟨-, hf⟩ | ⟨-, hf⟩
    · cases hf
      exact zgr_rf _
    · obtain ⟨-, hf⟩ := zg hf
      rcases zpp hf with ⟨-, hf⟩ | ⟨-, hf⟩
      · cases hf
        exact ⟨_, rfl⟩
      · cases hf
        exact ⟨_, List.append_assoc _ _ _⟩
theorem l_cRunner_redirectOutput (F : Nat) (u : ZC) (v1 : Nat) (v2 : Int) {res : Int} {uo : ZC} (hf : cRunner_redirectOutput F u v1 v2 = some (res, uo)) : zgr u uo := by
  have C_34 : ∀ (u : ZC) (v1 : Nat) (v2 : Int) (v3 : Option Nat), cRunner_redirectOutput_34 F u v1 v2 v3 = some (res, uo) → zgr u uo := by
    intro u v1 v2 v3 hf
    rw [cRunner_redirectOutput_34] at hf
    obtain ⟨b10, l1, hf⟩ := ze1 hf
    rcases zpp hf with ⟨-, hf⟩ | ⟨-, hf⟩
    · exact zgr_f (zgr_rf u) (congrArg Prod.snd (Option.some.inj hf)).symm rfl
    · obtain ⟨u15, l2, hf⟩ := ze1 hf
      have l3 : zgr u u15 := by
        rcases zpp l2 with ⟨-, l2⟩ | ⟨-, l2⟩
        · exact zgr_f (zgr_rf u) ((Option.some.inj l2)).symm rfl
        · obtain ⟨n11, -, l2⟩ := zes l2
          obtain ⟨-, l2⟩ := zg l2
          obtain ⟨o12, l4, l2⟩ := ze1 l2
          obtain ⟨n13, -, l2⟩ := zes l2
          obtain ⟨u14, l5, l2⟩ := ze1 l2
          have l6 : zgr u u14 := zgr_q (l_cTree_empty F _ _ l5)
          exact zgr_f (zgr_tr (zgr_rf u) (l6)) ((Option.some.inj l2)).symm rfl
      obtain ⟨n16, -, hf⟩ := zes hf
      obtain ⟨-, hf⟩ := zg hf
      obtain ⟨o17, l7, hf⟩ := ze1 hf
      obtain ⟨-, hf⟩ := zg hf
      exact zgr_f (zgr_tr (zgr_rf u) (l3)) (congrArg Prod.snd (Option.some.inj hf)).symm rfl
  rw [cRunner_redirectOutput] at hf
  obtain ⟨o1, l8, hf⟩ := ze1 hf
  obtain ⟨o2, l9, hf⟩ := ze1 hf
  rcases zel hf with ⟨-, hf⟩ | ⟨n3, -, hf⟩
  · exact zgr_tr (zgr_rf u) (C_34 _ _ _ _ hf)
  · obtain ⟨-, hf⟩ := zg hf
    obtain ⟨p4, u5, l10, hf⟩ := ze2 hf
    have l11 : zgr u u5 := l_cTree_make F _ _ l10
    rcases zel hf with ⟨-, hf⟩ | ⟨n6, -, hf⟩
    · exact zgr_f (zgr_tr (zgr_rf u) (l11)) (congrArg Prod.snd (Option.some.inj hf)).symm rfl
    · exact zgr_tr (zgr_tr (zgr_rf u) (l11)) (C_34 _ _ _ _ hf)
theorem l_cRunner_redirect (F : Nat) (u : ZC) (v1 : Int) (v2 : Int) (v3 : Nat) {res : Int} {uo : ZC} (hf : cRunner_redirect F u v1 v2 v3 = some (res, uo)) : zgr u uo := by
  have C_6 : ∀ (n : Nat), ∀ (u : ZC) (v2 : Int) (v3 : Nat) (v4 : Int) (v5 : Int), cRunner_redirect_6 F n u v2 v3 v4 v5 = some (res, uo) → zgr u uo := by
    intro n
    induction n with
    | zero => intro u v2 v3 v4 v5 hf; cases (show (none : Option (Int × ZC)) = some (res, uo) from hf)
    | succ n ih =>
      intro u v2 v3 v4 v5 hf
      rw [cRunner_redirect_6] at hf
      obtain ⟨b1, l1, hf⟩ := ze1 hf
      rcases zpp hf with ⟨-, hf⟩ | ⟨-, hf⟩
      · exact zgr_f (zgr_rf u) (congrArg Prod.snd (Option.some.inj hf)).symm rfl
      · obtain ⟨p2, l2, hf⟩ := ze1 hf
        obtain ⟨x16, u17, l3, hf⟩ := ze2 hf
        have l4 : zgr u u17 := by
          rcases zpp l3 with ⟨-, l3⟩ | ⟨-, l3⟩
          · exact zgr_f (zgr_rf u) (congrArg Prod.snd (Option.some.inj l3)).symm rfl
          · obtain ⟨u3, l5, l3⟩ := ze1 l3
            have l6 : zgr u u3 := zgr_q (l_cWords_clear F _ l5)
            obtain ⟨u4, l7, l3⟩ := ze1 l3
            have l8 : zgr u3 u4 := zgr_q (l_cWords_add F _ _ _ l7)
            obtain ⟨p5, u6, l9, l3⟩ := ze2 l3
            have l10 : zgr u4 u6 := zgr_q (l_cTree_follow F _ _ l9)
            obtain ⟨p7, l11, l3⟩ := ze1 l3
            obtain ⟨x14, u15, l12, l3⟩ := ze2 l3
            have l13 : zgr u6 u15 := by
              rcases zpp l12 with ⟨-, l12⟩ | ⟨-, l12⟩
              · obtain ⟨p8, l14, l12⟩ := ze1 l12
                obtain ⟨x9, l15, l12⟩ := ze1 l12
                obtain ⟨-, l12⟩ := zg l12
                obtain ⟨p10, u11, l16, l12⟩ := ze2 l12
                have l17 : zgr u6 u11 := l_cRunner_redirectOutput F _ _ _ l16
                exact zgr_f (zgr_tr (zgr_rf u6) (l17)) (congrArg Prod.snd (Option.some.inj l12)).symm rfl
              · obtain ⟨p12, u13, l18, l12⟩ := ze2 l12
                have l19 : zgr u6 u13 := zgr_q (l_cRunner_redirectInput F _ _ l18)
                exact zgr_f (zgr_tr (zgr_rf u6) (l19)) (congrArg Prod.snd (Option.some.inj l12)).symm rfl
            exact zgr_f (zgr_tr (zgr_tr (zgr_tr (zgr_tr (zgr_rf u) (l6)) (l8)) (l10)) (l13)) (congrArg Prod.snd (Option.some.inj l3)).symm rfl
        exact zgr_tr (zgr_tr (zgr_rf u) (l4)) (ih _ _ _ _ _ hf)
  rw [cRunner_redirect] at hf
  exact zgr_tr (zgr_rf u) (C_6 F _ _ _ _ _ hf)
theorem l_cRunner_runGroup (F : Nat) (rec : ZC → Int → Int → Int → Nat → Option (Int × ZC)) (hrec : ∀ (u : ZC) (v1 : Int) (v2 : Int) (v3 : Int) (v4 : Nat) (res : Int) (uo : ZC), rec u v1 v2 v3 v4 = some (res, uo) → zgr u uo) (u : ZC) (v1 : Int) (v2 : Int) (v3 : Int) (v4 : Nat) {res : Int} {uo : ZC} (hf : cRunner_runGroup F rec u v1 v2 v3 v4 = some (res, uo)) : zgr u uo := by
  rw [cRunner_runGroup] at hf
  obtain ⟨o1, l1, hf⟩ := ze1 hf
  obtain ⟨-, hf⟩ := zg hf
  obtain ⟨p2, u3, l2, hf⟩ := ze2 hf
  have l3 : zgr u u3 := hrec _ _ _ _ _ _ _ l2
  rcases zpp hf with ⟨-, hf⟩ | ⟨-, hf⟩
  · obtain ⟨-, hf⟩ := zg hf
    obtain ⟨-, hf⟩ := zg hf
    obtain ⟨p4, u5, l4, hf⟩ := ze2 hf
    have l5 : zgr (sP u3 1 0 o1) u5 := zgr_q (l_cText_addAll F _ _ _ l4)
    exact zgr_f (zgr_tr (zgr_tr (zgr_rf u) (l3)) (l5)) (congrArg Prod.snd (Option.some.inj hf)).symm rfl
  · exact zgr_f (zgr_tr (zgr_rf u) (l3)) (congrArg Prod.snd (Option.some.inj hf)).symm rfl
theorem l_cTools_mkdir (F : Nat) (u : ZC) {res : Int} {uo : ZC} (hf : cTools_mkdir F u = some (res, uo)) : zgr u uo := by
  rw [cTools_mkdir] at hf
  rcases zpp hf with ⟨-, hf⟩ | ⟨-, hf⟩
  · obtain ⟨p1, u2, l1, hf⟩ := ze2 hf
    have l2 : zgr u u2 := zgr_q (l_cTree_follow F _ _ l1)
    obtain ⟨o3, l3, hf⟩ := ze1 hf
    rcases zel hf with ⟨-, hf⟩ | ⟨n4, -, hf⟩
    · exact zgr_f (zgr_tr (zgr_rf u) (l2)) (congrArg Prod.snd (Option.some.inj hf)).symm rfl
    · obtain ⟨p5, u6, l4, hf⟩ := ze2 hf
      have l5 : zgr u2 u6 := l_cTree_make F _ _ l4
      obtain ⟨x8, l6, hf⟩ := ze1 hf
      exact zgr_f (zgr_tr (zgr_tr (zgr_rf u) (l2)) (l5)) (congrArg Prod.snd (Option.some.inj hf)).symm rfl
  · exact zgr_f (zgr_rf u) (congrArg Prod.snd (Option.some.inj hf)).symm rfl
theorem l_cTools_run (F : Nat) (u : ZC) (v1 : Nat) (v2 : Nat) {res : Int} {uo : ZC} (hf : cTools_run F u v1 v2 = some (res, uo)) : zgr u uo := by
  rw [cTools_run] at hf
  obtain ⟨p1, l1, hf⟩ := ze1 hf
  rcases zpp hf with ⟨-, hf⟩ | ⟨-, hf⟩
  · obtain ⟨p2, l2, hf⟩ := ze1 hf
    rcases zpp hf with ⟨-, hf⟩ | ⟨-, hf⟩
    · obtain ⟨p3, l3, hf⟩ := ze1 hf
      rcases zpp hf with ⟨-, hf⟩ | ⟨-, hf⟩
      · obtain ⟨p4, l4, hf⟩ := ze1 hf
        rcases zpp hf with ⟨-, hf⟩ | ⟨-, hf⟩
        · obtain ⟨p5, l5, hf⟩ := ze1 hf
          rcases zpp hf with ⟨-, hf⟩ | ⟨-, hf⟩
          · obtain ⟨p6, l6, hf⟩ := ze1 hf
            rcases zpp hf with ⟨-, hf⟩ | ⟨-, hf⟩
            · obtain ⟨p7, l7, hf⟩ := ze1 hf
              obtain ⟨x10, u11, l8, hf⟩ := ze2 hf
              have l9 : zgr u u11 := by
                rcases zpp l8 with ⟨-, l8⟩ | ⟨-, l8⟩
                · exact zgr_f (zgr_rf u) (congrArg Prod.snd (Option.some.inj l8)).symm rfl
                · obtain ⟨p8, u9, l10, l8⟩ := ze2 l8
                  have l11 : zgr u u9 := zgr_q (l_cTools_cd F _ l10)
                  exact zgr_f (zgr_tr (zgr_rf u) (l11)) (congrArg Prod.snd (Option.some.inj l8)).symm rfl
              exact zgr_f (zgr_tr (zgr_rf u) (l9)) (congrArg Prod.snd (Option.some.inj hf)).symm rfl
            · obtain ⟨p12, u13, l12, hf⟩ := ze2 hf
              have l13 : zgr u u13 := l_cTools_mkdir F _ l12
              exact zgr_f (zgr_tr (zgr_rf u) (l13)) (congrArg Prod.snd (Option.some.inj hf)).symm rfl
          · obtain ⟨p14, u15, l14, hf⟩ := ze2 hf
            have l15 : zgr u u15 := zgr_q (l_cTools_ls F _ _ l14)
            exact zgr_f (zgr_tr (zgr_rf u) (l15)) (congrArg Prod.snd (Option.some.inj hf)).symm rfl
        · obtain ⟨p16, u17, l16, hf⟩ := ze2 hf
          have l17 : zgr u u17 := zgr_q (l_cTools_grep F _ _ _ l16)
          exact zgr_f (zgr_tr (zgr_rf u) (l17)) (congrArg Prod.snd (Option.some.inj hf)).symm rfl
      · obtain ⟨p18, u19, l18, hf⟩ := ze2 hf
        have l19 : zgr u u19 := zgr_q (l_cTools_wc F _ _ _ l18)
        exact zgr_f (zgr_tr (zgr_rf u) (l19)) (congrArg Prod.snd (Option.some.inj hf)).symm rfl
    · obtain ⟨p20, u21, l20, hf⟩ := ze2 hf
      have l21 : zgr u u21 := zgr_q (l_cTools_cat F _ _ _ l20)
      exact zgr_f (zgr_tr (zgr_rf u) (l21)) (congrArg Prod.snd (Option.some.inj hf)).symm rfl
  · obtain ⟨p22, u23, l22, hf⟩ := ze2 hf
    have l23 : zgr u u23 := zgr_q (l_cTools_echo F _ _ l22)
    exact zgr_f (zgr_tr (zgr_rf u) (l23)) (congrArg Prod.snd (Option.some.inj hf)).symm rfl
theorem l_cRunner_runCommand (F : Nat) (rec : ZC → Int → Int → Int → Nat → Option (Int × ZC)) (hrec : ∀ (u : ZC) (v1 : Int) (v2 : Int) (v3 : Int) (v4 : Nat) (res : Int) (uo : ZC), rec u v1 v2 v3 v4 = some (res, uo) → zgr u uo) (u : ZC) (v1 : Int) (v2 : Int) (v3 : Int) (v4 : Nat) {res : Int} {uo : ZC} (hf : cRunner_runCommand F rec u v1 v2 v3 v4 = some (res, uo)) : zgr u uo := by
  rw [cRunner_runCommand] at hf
  obtain ⟨-, hf⟩ := zg hf
  obtain ⟨u1, l1, hf⟩ := ze1 hf
  have l2 : zgr u u1 := zgr_q (l_cText_clear F _ _ l1)
  obtain ⟨p2, l3, hf⟩ := ze1 hf
  obtain ⟨x3, l4, hf⟩ := ze1 hf
  obtain ⟨x5, l5, hf⟩ := ze1 hf
  obtain ⟨-, hf⟩ := zg hf
  obtain ⟨p6, u7, l6, hf⟩ := ze2 hf
  have l7 : zgr (sP (sI u1 11 v3.toNat 0) 4 v3.toNat none) u7 := l_cRunner_redirect F _ _ _ _ l6
  rcases zpp hf with ⟨-, hf⟩ | ⟨-, hf⟩
  · obtain ⟨x8, l8, hf⟩ := ze1 hf
    obtain ⟨x14, u15, l9, hf⟩ := ze2 hf
    have l10 : zgr u7 u15 := by
      rcases zpp l9 with ⟨-, l9⟩ | ⟨-, l9⟩
      · obtain ⟨u9, l11, l9⟩ := ze1 l9
        have l12 : zgr u7 u9 := zgr_q (l_cRunner_takeWords F _ _ _ l11)
        obtain ⟨p10, u11, l13, l9⟩ := ze2 l9
        have l14 : zgr (sI u9 9 0 ((cI u9 9 0) + 1)) u11 := l_cTools_run F _ _ _ l13
        exact zgr_f (zgr_tr (zgr_tr (zgr_rf u7) (l12)) (l14)) (congrArg Prod.snd (Option.some.inj l9)).symm rfl
      · obtain ⟨p12, u13, l15, l9⟩ := ze2 l9
        have l16 : zgr u7 u13 := l_cRunner_runGroup F _ hrec _ _ _ _ _ l15
        exact zgr_f (zgr_tr (zgr_rf u7) (l16)) (congrArg Prod.snd (Option.some.inj l9)).symm rfl
    obtain ⟨b16, l17, hf⟩ := ze1 hf
    rcases zpp hf with ⟨-, hf⟩ | ⟨-, hf⟩
    · exact zgr_f (zgr_tr (zgr_tr (zgr_tr (zgr_rf u) (l2)) (l7)) (l10)) (congrArg Prod.snd (Option.some.inj hf)).symm rfl
    · obtain ⟨o17, l18, hf⟩ := ze1 hf
      rcases zel hf with ⟨-, hf⟩ | ⟨n18, -, hf⟩
      · exact zgr_f (zgr_tr (zgr_tr (zgr_tr (zgr_rf u) (l2)) (l7)) (l10)) (congrArg Prod.snd (Option.some.inj hf)).symm rfl
      · obtain ⟨o19, l19, hf⟩ := ze1 hf
        obtain ⟨n20, -, hf⟩ := zes hf
        obtain ⟨p21, u22, l20, hf⟩ := ze2 hf
        have l21 : zgr u15 u22 := zgr_q (l_cTree_append F _ _ _ l20)
        rcases zpp hf with ⟨-, hf⟩ | ⟨-, hf⟩
        · obtain ⟨u23, l22, hf⟩ := ze1 hf
          have l23 : zgr u22 u23 := zgr_q (l_cText_clear F _ _ l22)
          exact zgr_f (zgr_tr (zgr_tr (zgr_tr (zgr_tr (zgr_tr (zgr_rf u) (l2)) (l7)) (l10)) (l21)) (l23)) (congrArg Prod.snd (Option.some.inj hf)).symm rfl
        · exact zgr_f (zgr_tr (zgr_tr (zgr_tr (zgr_tr (zgr_rf u) (l2)) (l7)) (l10)) (l21)) (congrArg Prod.snd (Option.some.inj hf)).symm rfl
  · exact zgr_f (zgr_tr (zgr_tr (zgr_rf u) (l2)) (l7)) (congrArg Prod.snd (Option.some.inj hf)).symm rfl
theorem l_cRunner_runPipeline (F : Nat) (rec : ZC → Int → Int → Int → Nat → Option (Int × ZC)) (hrec : ∀ (u : ZC) (v1 : Int) (v2 : Int) (v3 : Int) (v4 : Nat) (res : Int) (uo : ZC), rec u v1 v2 v3 v4 = some (res, uo) → zgr u uo) (u : ZC) (v1 : Int) (v2 : Int) (v3 : Int) (v4 : Nat) {res : Int} {uo : ZC} (hf : cRunner_runPipeline F rec u v1 v2 v3 v4 = some (res, uo)) : zgr u uo := by
  have C_71 : ∀ (n : Nat), ∀ (u : ZC) (v2 : Int) (v3 : Int) (v5 : Nat) (v6 : Int) (v7 : Int) (v8 : Int) (v9 : Nat) (v10 : Int), cRunner_runPipeline_71 F rec n u v2 v3 v5 v6 v7 v8 v9 v10 = some (res, uo) → zgr u uo := by
    intro n
    induction n with
    | zero => intro u v2 v3 v5 v6 v7 v8 v9 v10 hf; cases (show (none : Option (Int × ZC)) = some (res, uo) from hf)
    | succ n ih =>
      intro u v2 v3 v5 v6 v7 v8 v9 v10 hf
      rw [cRunner_runPipeline_71] at hf
      rcases zpp hf with ⟨-, hf⟩ | ⟨-, hf⟩
      · obtain ⟨x7, l1, hf⟩ := ze1 hf
        obtain ⟨-, hf⟩ := zg hf
        obtain ⟨p8, u9, l2, hf⟩ := ze2 hf
        have l3 : zgr (sI u 8 0 x7) u9 := zgr_q (l_cText_addAll F _ _ _ l2)
        obtain ⟨-, hf⟩ := zg hf
        exact zgr_f (zgr_tr (zgr_rf u) (l3)) (congrArg Prod.snd (Option.some.inj hf)).symm rfl
      · obtain ⟨p10, l4, hf⟩ := ze1 hf
        obtain ⟨o11, l5, hf⟩ := ze1 hf
        obtain ⟨-, hf⟩ := zg hf
        obtain ⟨-, hf⟩ := zg hf
        obtain ⟨-, hf⟩ := zg hf
        obtain ⟨p12, u13, l6, hf⟩ := ze2 hf
        have l7 : zgr u u13 := l_cRunner_runCommand F _ hrec _ _ _ _ _ l6
        obtain ⟨u14, l8, hf⟩ := ze1 hf
        have l9 : zgr u13 u14 := by
          rcases zpp l8 with ⟨-, l8⟩ | ⟨-, l8⟩
          · exact zgr_f (zgr_rf u13) ((Option.some.inj l8)).symm rfl
          · exact zgr_f (zgr_rf u13) ((Option.some.inj l8)).symm rfl
        rcases zpp hf with ⟨-, hf⟩ | ⟨-, hf⟩
        · obtain ⟨x18, u19, l10, hf⟩ := ze2 hf
          have l11 : zgr u14 u19 := by
            rcases zpp l10 with ⟨-, l10⟩ | ⟨-, l10⟩
            · exact zgr_f (zgr_rf u14) (congrArg Prod.snd (Option.some.inj l10)).symm rfl
            · obtain ⟨u15, l12, l10⟩ := ze1 l10
              have l13 : zgr u14 u15 := zgr_q (l_cText_clear F _ _ l12)
              obtain ⟨p16, u17, l14, l10⟩ := ze2 l10
              have l15 : zgr u15 u17 := zgr_q (l_cText_addAll F _ _ _ l14)
              exact zgr_f (zgr_tr (zgr_tr (zgr_rf u14) (l13)) (l15)) (congrArg Prod.snd (Option.some.inj l10)).symm rfl
          exact zgr_tr (zgr_tr (zgr_tr (zgr_tr (zgr_rf u) (l7)) (l9)) (l11)) (ih _ _ _ _ _ _ _ _ _ hf)
        · exact zgr_f (zgr_tr (zgr_tr (zgr_rf u) (l7)) (l9)) (congrArg Prod.snd (Option.some.inj hf)).symm rfl
  rw [cRunner_runPipeline] at hf
  obtain ⟨-, hf⟩ := zg hf
  obtain ⟨p1, l16, hf⟩ := ze1 hf
  obtain ⟨x2, l17, hf⟩ := ze1 hf
  obtain ⟨x3, l18, hf⟩ := ze1 hf
  obtain ⟨p4, l19, hf⟩ := ze1 hf
  obtain ⟨x5, l20, hf⟩ := ze1 hf
  exact zgr_tr (zgr_rf u) (C_71 F _ _ _ _ _ _ _ _ _ hf)
theorem l_cRunner_runList (F : Nat) : ∀ (d : Nat), ∀ (u : ZC) (v1 : Int) (v2 : Int) (v3 : Int) (v4 : Nat) (res : Int) (uo : ZC), cRunner_runList F d u v1 v2 v3 v4 = some (res, uo) → zgr u uo := by
  intro d
  induction d with
  | zero => intro u v1 v2 v3 v4 res uo hf; cases (show (none : Option (Int × ZC)) = some (res, uo) from hf)
  | succ d ihd =>
    intro u v1 v2 v3 v4 res uo hf
    have C_75 : ∀ (k25 : ZC → Int → Int → Nat → Int → Int → Option (Int × ZC)) (hk25 : ∀ (u : ZC) (v2 : Int) (v3 : Int) (v4 : Nat) (v5 : Int) (v6 : Int), k25 u v2 v3 v4 v5 v6 = some (res, uo) → zgr u uo) , ∀ (u : ZC) (v2 : Int) (v3 : Int) (v4 : Nat) (v7 : Int), cRunner_runList_75 F (cRunner_runList F d) k25 u v2 v3 v4 v7 = some (res, uo) → zgr u uo := by
      intro k25 hk25 u v2 v3 v4 v7 hf
      rw [cRunner_runList_75] at hf
      obtain ⟨p6, l1, hf⟩ := ze1 hf
      exact zgr_tr (zgr_rf u) (hk25 _ _ _ _ _ _ hf)
    have C_25 : ∀ (n : Nat), ∀ (u : ZC) (v2 : Int) (v3 : Int) (v4 : Nat) (v5 : Int) (v6 : Int), cRunner_runList_25 F (cRunner_runList F d) n u v2 v3 v4 v5 v6 = some (res, uo) → zgr u uo := by
      intro n
      induction n with
      | zero => intro u v2 v3 v4 v5 v6 hf; cases (show (none : Option (Int × ZC)) = some (res, uo) from hf)
      | succ n ih =>
        intro u v2 v3 v4 v5 v6 hf
        rw [cRunner_runList_25] at hf
        rcases zpp hf with ⟨-, hf⟩ | ⟨-, hf⟩
        · exact zgr_f (zgr_rf u) (congrArg Prod.snd (Option.some.inj hf)).symm rfl
        · obtain ⟨p2, l2, hf⟩ := ze1 hf
          obtain ⟨p3, l3, hf⟩ := ze1 hf
          rcases zpp hf with ⟨-, hf⟩ | ⟨-, hf⟩
          · exact zgr_tr (zgr_rf u) (C_75 _ ih _ _ _ _ _ hf)
          · obtain ⟨-, hf⟩ := zg hf
            obtain ⟨p4, u5, l4, hf⟩ := ze2 hf
            have l5 : zgr u u5 := l_cRunner_runPipeline F _ ihd _ _ _ _ _ l4
            rcases zpp hf with ⟨-, hf⟩ | ⟨-, hf⟩
            · exact zgr_tr (zgr_tr (zgr_rf u) (l5)) (C_75 _ ih _ _ _ _ _ hf)
            · exact zgr_f (zgr_tr (zgr_rf u) (l5)) (congrArg Prod.snd (Option.some.inj hf)).symm rfl
    rw [cRunner_runList] at hf
    rcases zpp hf with ⟨-, hf⟩ | ⟨-, hf⟩
    · obtain ⟨-, hf⟩ := zg hf
      obtain ⟨u1, l6, hf⟩ := ze1 hf
      have l7 : zgr u u1 := zgr_q (l_cText_clear F _ _ l6)
      exact zgr_tr (zgr_tr (zgr_rf u) (l7)) (C_25 F _ _ _ _ _ _ hf)
    · exact zgr_f (zgr_rf u) (congrArg Prod.snd (Option.some.inj hf)).symm rfl
theorem l_cShell_enter (F : Nat) (u : ZC) {res : Int} {uo : ZC} (hf : cShell_enter F u = some (res, uo)) : zgr u uo := by
  rw [cShell_enter] at hf
  obtain ⟨p1, u2, l1, hf⟩ := ze2 hf
  have l2 : zgr u u2 := zgr_q (l_cGrammar_accepts F _ l1)
  obtain ⟨u3, l3, hf⟩ := ze1 hf
  have l4 : zgr u2 u3 := zgr_q (l_cRunner_forget F _ l3)
  obtain ⟨u6, l5, hf⟩ := ze1 hf
  have l6 : zgr u3 u6 := by
    rcases zpp l5 with ⟨-, l5⟩ | ⟨-, l5⟩
    · exact zgr_f (zgr_rf u3) ((Option.some.inj l5)).symm rfl
    · obtain ⟨p4, u5, l7, l5⟩ := ze2 l5
      have l8 : zgr u3 u5 := l_cRunner_runList F 6 _ _ _ _ _ _ _ l7
      rcases zpp l5 with ⟨-, l5⟩ | ⟨-, l5⟩
      · exact zgr_f (zgr_tr (zgr_rf u3) (l8)) ((Option.some.inj l5)).symm rfl
      · exact zgr_f (zgr_tr (zgr_rf u3) (l8)) ((Option.some.inj l5)).symm rfl
  obtain ⟨u7, l9, hf⟩ := ze1 hf
  have l10 : zgr u6 u7 := zgr_q (l_cText_clear F _ _ l9)
  obtain ⟨x8, l11, hf⟩ := ze1 hf
  exact zgr_f (zgr_tr (zgr_tr (zgr_tr (zgr_tr (zgr_rf u) (l2)) (l4)) (l6)) (l10)) (congrArg Prod.snd (Option.some.inj hf)).symm rfl
