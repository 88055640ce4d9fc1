/-! the seven tools on both sides -/
theorem run_alike (F : Nat) (hF : 200 ≤ F) {u : ZC} {r : ZR} {c h lev inp : Nat} {ws : List (List Int)} (E : zEv u r c h lev inp ws) (HG : zTg u c) (hc : (c : Int) ≤ cI u 4 0) (hH : zH u (4 + 4 * lev) []) (hHr : zHr r []) : zTl u r c lev inp (cTools_run F u inp (4 + 4 * lev)) (r_tool F r) := by
  have hi := zEv_inp E
  have HW := E.2.2.1.2.1
  have HR := E.2.2.1.2.2.1
  have hl := E.2.2.1.1
  have hw1 := E.2.2.1.2.2.2
  have hlev := E.2.2.2.1.1
  have hwl := zwl_get hl 0
  have hlt : ∀ u : ZC, zlT u (4 + 4 * lev) := fun u => Or.inl (by omega)
  have hli : ∀ u : ZC, zlT u inp := fun u => Or.inl hi.2.1
  have hhas : ∀ x, x < 9 → cWords_has F u 0 x = some (if ws.getD 0 [] = zstr.getD x [] then 1 else 0) := by
    intro x hx
    have := has_is F (by omega) hl HW 0 (by omega) x hx
    have this' : cWords_has F u 0 x = some (if 0 < ws.length ∧ ws.getD 0 [] = zstr.getD x [] then 1 else 0) := this
    rw [this']
    congr 1
    by_cases hq : ws.getD 0 [] = zstr.getD x []
    · rw [if_pos ⟨by omega, hq⟩, if_pos hq]
    · rw [if_neg (fun hh => hq hh.2), if_neg hq]
  have hwa : r_wordAs F r 0 = some (zPk (ws.getD 0 [])) := wordAs_is F (by omega) hl HR 0 (by omega) (by omega)
  have hz : ∀ x, x < 9 → (zPk (ws.getD 0 []) = zpack (zstr.getD x []) ↔ ws.getD 0 [] = zstr.getD x []) := fun x hx => zE_lit hwl x hx
  obtain ⟨l0, l1, l2, l3, l4, l5, l6, l7, l8⟩ := zlit
  have k2 := hz 2 (by omega)
  have k3 := hz 3 (by omega)
  have k4 := hz 4 (by omega)
  have k5 := hz 5 (by omega)
  have k6 := hz 6 (by omega)
  have k7 := hz 7 (by omega)
  have k8 := hz 8 (by omega)
  rw [l2] at k2
  rw [l3] at k3
  rw [l4] at k4
  rw [l5] at k5
  rw [l6] at k6
  rw [l7] at k7
  rw [l8] at k8
  have hfin : ∀ (X : Option (Int × ZC)) (Y : Option (Int × ZR)), zTl u r c lev inp X Y → zTl u r c lev inp X (zb2 (zb2 Y fun (p : Int) (w : ZR) => some (p, w)) fun (x16 : Int) (u17 : ZR) => some (x16, u17)) := by
    intro X Y hh
    have : (zb2 (zb2 Y fun (p : Int) (w : ZR) => some (p, w)) fun (x16 : Int) (u17 : ZR) => some (x16, u17)) = Y := by
      cases Y with
      | none => rfl
      | some y => rfl
    rw [this]
    exact hh
  have hfin2 : ∀ (X : Option (Int × ZC)) (Y : Option (Int × ZR)), zTl u r c lev inp X Y → zTl u r c lev inp (zb2 X fun (p : Int) (w : ZC) => some (p, w)) Y := by
    intro X Y hh
    have : (zb2 X fun (p : Int) (w : ZC) => some (p, w)) = X := by
      cases X with
      | none => rfl
      | some y => rfl
    rw [this]
    exact hh
  unfold cTools_run r_tool
  rw [hwa, hhas 2 (by omega), hhas 3 (by omega), hhas 4 (by omega), hhas 5 (by omega), hhas 6 (by omega), hhas 7 (by omega), hhas 8 (by omega)]
  simp only [Option.bind_some, k2, k3, k4, k5, k6, k7, k8]
  by_cases h2 : ws.getD 0 [] = zstr.getD 2 []
  · simp only [eq_true h2, if_true, not_true, if_false, z10]
    apply hfin
    obtain ⟨w, u2, r2, e1, e2, e3, e4, e5, e6⟩ := echo_alike F (by omega) E hH hHr
    obtain ⟨hone, -⟩ := zout_ne lev hlev
    have hd : zDone u r c lev inp (cTools_echo F u (4 + 4 * lev)) (r_echo F r) := ⟨0, w, u2, r2, e1, e2, Or.inl rfl, fun hh => absurd rfl hh, e3, e4, zFr_mono e5 (by omega) (by omega) (by omega) (by omega), zq_mono e6 (by decide) (by decide), zBs_fr e5 hone hone e6 (by decide) E.2.2.2.2.1, zPb_fr e5 E.2.2.2.2.2.1⟩
    exact hfin2 _ _ (zDone_tl E hc hd)
  · by_cases h3 : ws.getD 0 [] = zstr.getD 3 []
    · simp only [eq_false h2, eq_true h3, if_true, not_true, not_false_iff, if_false, z10, z00, Option.bind_some]
      apply hfin
      exact hfin2 _ _ (zDone_tl E hc (cat_alike F (by omega) E hH hHr))
    · by_cases h4 : ws.getD 0 [] = zstr.getD 4 []
      · simp only [eq_false h2, eq_false h3, eq_true h4, if_true, not_true, not_false_iff, if_false, z10, z00, Option.bind_some]
        apply hfin
        exact hfin2 _ _ (zDone_tl E hc (wc_alike F (by omega) E hH hHr))
      · by_cases h5 : ws.getD 0 [] = zstr.getD 5 []
        · simp only [eq_false h2, eq_false h3, eq_false h4, eq_true h5, if_true, not_true, not_false_iff, if_false, z10, z00, Option.bind_some]
          apply hfin
          exact hfin2 _ _ (zDone_tl E hc (grep_alike F hF E hH hHr))
        · by_cases h6 : ws.getD 0 [] = zstr.getD 6 []
          · simp only [eq_false h2, eq_false h3, eq_false h4, eq_false h5, eq_true h6, if_true, not_true, not_false_iff, if_false, z10, z00, Option.bind_some]
            apply hfin
            exact hfin2 _ _ (zDone_tl E hc (ls_alike F hF E hH hHr))
          · by_cases h7 : ws.getD 0 [] = zstr.getD 7 []
            · simp only [eq_false h2, eq_false h3, eq_false h4, eq_false h5, eq_false h6, eq_true h7, if_true, not_true, not_false_iff, if_false, z10, z00, Option.bind_some]
              apply hfin
              exact hfin2 _ _ (mkdir_alike F (by omega) E HG hc hH hHr)
            · by_cases h8 : ws.getD 0 [] = zstr.getD 8 []
              · simp only [eq_false h2, eq_false h3, eq_false h4, eq_false h5, eq_false h6, eq_false h7, eq_true h8, if_true, not_true, not_false_iff, if_false, z10, z00, Option.bind_some]
                apply hfin
                exact hfin2 _ _ (hfin2 _ _ (cd_alike F (by omega) E hc hH hHr))
              · simp only [eq_false h2, eq_false h3, eq_false h4, eq_false h5, eq_false h6, eq_false h7, eq_false h8, if_true, not_true, not_false_iff, if_false, z10, z00, Option.bind_some, zb2_some]
                exact ⟨127, 127, [], u, r, c, h, rfl, rfl, Or.inl ⟨rfl, by omega⟩, fun _ => rfl, hH, hHr, E.1, Nat.le_refl _, hc, zKt_fr (zFr_rf (4 + 4 * lev) inp 0 0 u) (Or.inl rfl) (Or.inr rfl), zq_rf _ _ r, rfl, E.2.2.2.2.1, E.2.2.2.2.2.1, fun _ _ => rfl⟩
