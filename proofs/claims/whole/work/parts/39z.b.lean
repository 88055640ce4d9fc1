/-! a simple command on both sides -/
/-- the class's input and the reference's -/
theorem zLv_src {u : ZC} {r : ZR} {c k inp : Nat} (hk : k < 5) (HV : zLv u r c k inp) : ∃ x8 : Nat, (if zI (cI u 11 k) = 0 then some inp else some (6 + 4 * k)) = some x8 ∧ zIp x8 (rA r 24 k) := by
  rcases HV.1 with ⟨v1, v2⟩ | ⟨v1, v2⟩
  · exact ⟨inp, by rw [v1, if_pos z00], v2⟩
  · refine ⟨6 + 4 * k, by rw [v1, if_neg z10], Or.inr ⟨2 * k + 1, by omega, ?_, by rw [v2]; omega⟩⟩
    unfold zbt
    rw [if_neg (by omega)]
    omega
theorem zIp_in {inp : Nat} {b : Int} (h : zIp inp b) : inp < 23 ∧ inp ≠ 0 ∧ inp ≠ 1 ∧ ∀ j, inp ≠ 3 + 4 * j ∧ inp ≠ 4 + 4 * j := by
  rcases h with ⟨h, -⟩ | ⟨b', h1, h2, -⟩
  · exact ⟨by omega, by omega, by omega, fun j => by omega⟩
  · have := zbt_in b' h1
    exact ⟨by omega, by omega, by omega, fun j => by have := this.2.2 j; omega⟩
theorem simple_alike (F : Nat) (hF : 200 ≤ F) (rec : ZC → Int → Int → Int → Nat → Option (Int × ZC)) {u : ZC} {r : ZR} {m n c hb k inp : Nat} {K L A B : Nat → Int} (HS : zSt m n K L A B) (H : zRn u r m n K L A B c hb k) (p e : Nat) (hpe : p < e) (hem : e ≤ m) (h22 : rI r 22 = (p : Int)) (hin : zIp inp (rA r 25 k)) (h28 : rA r 28 k = 0 ∨ rA r 28 k = 1) (he : e = zF qP K m p 0) (hw : ∀ j, p ≤ j → j < e → (7 ≤ K j ∧ K j ≤ 10) ∧ (K j ≠ 10 → j + 1 < e ∧ K (j + 1) = 10)) (hp : p = 0 ∨ ¬ (7 ≤ K (p - 1) ∧ K (p - 1) ≤ 9)) (hex : ∃ j, p ≤ j ∧ j < e ∧ K j = 10 ∧ (p < j → ¬ (7 ≤ K (j - 1) ∧ K (j - 1) ≤ 9))) :
    ∃ (c2 : Nat) (u2 : ZC) (r2 : ZR), c ≤ c2 ∧ (∀ y, y ≤ c → cP u2 6 y = cP u 6 y) ∧ zLo k u u2 ∧ zLk k r r2 ∧ (rA r2 28 k = rA r 28 k ∧ rA r2 29 k = rA r 29 k ∧ rA r2 23 k = rA r 23 k ∧ rA r2 27 k = (hb : Int)) ∧
     ((cRunner_runCommand F rec u (p : Int) (e : Int) (k : Int) inp = some (100, u2) ∧ r_startCommand F r = some (-9, r2) ∧ ∃ h2, zRn u2 r2 m n K L A B c2 h2 k ∧ cP u2 6 hb = none) ∨
      (cRunner_runCommand F rec u (p : Int) (e : Int) (k : Int) inp = some (1, u2) ∧ r_startCommand F r = some (1, r2) ∧ rI r2 22 = (e : Int) ∧ zMid u2 r2 m n K L A B c2 hb hb k inp 0 []) ∨
      (∃ st hx w, (st = 0 ∨ st = 1 ∨ st = 2 ∨ st = 127) ∧ cRunner_runCommand F rec u (p : Int) (e : Int) (k : Int) inp = zTlC F k st u2 ∧ r_startCommand F r = some (st, r2) ∧ rI r2 22 = (e : Int) ∧ zMid u2 r2 m n K L A B c2 hx hb k inp 0 w)) := by
  have hk5 : k < 5 := H.2.2.2.2.2.2.2.1.1
  have hz5 : zix (k : Int) 5 := ⟨by omega, by omega, by omega⟩
  have hkp := (hw p (Nat.le_refl _) hpe).1
  have hbc : hb ≤ c := H.1.1.2.2.2.2.2.1
  have h9 : rI r 9 = (hb : Int) := H.1.1.2.2.2.2.1
  have hbd : cP u 6 hb = none := H.1.1.2.2.2.2.2.2.1
  obtain ⟨u1, a1, a2, a3, a4, a5, a6, a7, a8⟩ := pre_alike F H hin
  generalize hv : sP (sI u1 11 k 0) 4 k none = v at a2 a3 a4 a5 a6 a8
  obtain ⟨m64, k2, k12, kK, kR⟩ := zTs_K HS a2.2.2.2.2.2.2.1
  obtain ⟨s1, s2, s3, s4⟩ := zSC_k r k
  have hqS := zSC_q r k
  have hsc := startCmd_is F hF HS H p (by omega) h22
  rw [decide_eq_false (show ¬ K p = 5 by omega), zB_f, ← he] at hsc
  have hkat : cTokens_kindAt F v (p : Int) = some (K p) := by
    rw [ckat (K := K) m64 k2 (fun j hj => (kK j hj).1) p (by omega)]
    unfold zkt
    rw [if_pos (by omega)]
  have hlinp : ∀ w : ZC, zlT w inp := fun w => Or.inl (zIp_in hin).1
  -- the class up to its redirections
  have hcls : cRunner_runCommand F rec u (p : Int) (e : Int) (k : Int) inp = (zb2 (cRunner_redirect F v (p : Int) (e : Int) k) fun (p6 : Int) (u7 : ZC) => if zI p6 = 0 then (Option.bind (if zI (cI u7 11 k) = 0 then some inp else some (6 + 4 * k)) fun (x8 : Nat) => Option.bind (cRunner_takeWords F u7 (p : Int) (e : Int)) fun (u9 : ZC) => zb2 (cTools_run F (sI u9 9 0 ((cI u9 9 0) + 1)) x8 (4 + 4 * k)) fun (p10 : Int) (u11 : ZC) => zTlC F k p10 u11) else some (p6, u7)) := by
    unfold cRunner_runCommand
    rw [if_pos hz5, Int.toNat_natCast, a1]
    simp only [Option.bind_some, hv, hkat]
    rw [if_pos (show ¬ zI (K p) = zI 5 by rw [zI_eq (by omega) (by omega) (by omega) (by omega)]; omega)]
    simp only [Option.bind_some, if_pos z00, if_pos (hlinp v)]
    congr 1
    funext p6 u7
    by_cases hp6 : zI p6 = 0
    · rw [if_pos hp6, if_pos hp6]
      congr 1
      funext x8
      cases cRunner_takeWords F u7 (p : Int) (e : Int) with
      | none => rfl
      | some u9 =>
        simp only [Option.bind_some]
        cases cTools_run F (sI u9 9 0 ((cI u9 9 0) + 1)) x8 (4 + 4 * k) with
        | none => rfl
        | some y => rfl
    · rw [if_neg hp6, if_neg hp6]
  obtain ⟨st, c2, u7, r7, b1, b2, b3, b4, b5, b6, b7, b10, b8⟩ := redirs F hF HS e hem 0 (e - p) p F F c v (zSC r k) rfl (by omega) (by omega) (by omega) a2 a3 hw
  have b1' : cRunner_redirect F v (p : Int) (e : Int) k = some (st, u7) := b1
  have hr7 : rA r7 28 k = rA r 28 k ∧ rA r7 29 k = rA r 29 k ∧ rA r7 23 k = rA r 23 k ∧ rA r7 27 k = (hb : Int) := by
    refine ⟨?_, ?_, ?_, ?_⟩
    · rw [b7.1.2.2.1 28 k (by decide), hqS.2.2.1 28 k (by decide)]
    · rw [b7.1.2.2.1 29 k (by decide), hqS.2.2.1 29 k (by decide)]
    · rw [b7.1.2.2.1 23 k (by decide), hqS.2.2.1 23 k (by decide)]
    · rw [b7.1.2.2.1 27 k (by decide), s1]
      exact h9
  have hd7 : ∀ y, y ≤ c → cP u7 6 y = cP u 6 y := fun y hy => (b10 y hy).trans (a8 6 y (by omega))
  have hlo7 : zLo k u u7 := zLo_tr a6 b5
  have hlk7 : zLk k r r7 := zLk_tr a7 (zRk_lk b7)
  have h7out : zH u7 (4 + 4 * k) [] := zT4_H b6 a4
  have h7r : zHr r7 [] := zHr_keep b7.1 (by decide) (by decide) a5
  have h9_7 : rI r7 9 = (hb : Int) := b2.1.1.2.2.2.2.1
  have h6_7 : cP u7 6 hb = none := b2.1.1.2.2.2.2.2.2.1
  have h22_7 : rI r7 22 = (p : Int) := by rw [b7.1.1 22 (by decide)]; exact h22
  rw [hcls, hsc, b1']
  simp only [zb2_some]
  rcases b8 with ⟨b8, n3, b9⟩ | ⟨b8, b9⟩ | ⟨b8, b9⟩
  · -- all redirections done
    subst b8
    rw [if_pos z00, b9]
    obtain ⟨x8, x81, x82⟩ := zLv_src hk5 b4
    rw [x81]
    simp only [Option.bind_some]
    obtain ⟨ws, u9, r9, t1, ⟨n4, t2⟩, t3, t4, t5, t6, t7, t8, t9⟩ := take_alike F hF HS b2 p e (by omega) hem hp h22_7 hex
    rw [t1]
    simp only [Option.bind_some]
    have hr89 : r_startCommand_89 F (n3 + 1) r7 0 (e : Int) 0 (e : Int) = (zb2 (r_tool F (tI (tI r9 22 (e : Int)) 48 ((rI r9 48) + 1))) fun (p15 : Int) (u16 : ZR) => Option.bind (if zI p15 ≤ 0 then some u16 else some (tI (tI u16 35 0) 36 0)) fun (u17 : ZR) => Option.bind (if zI (rI u17 36) = 0 then some p15 else some (-9)) fun (x18 : Int) => some (x18, u17)) := by
      have e22 : rI (tI (tI r7 16 0) 19 0) 22 = (p : Int) := h22_7
      rw [r_startCommand_89, if_pos (by rw [zI_le (by omega) (by omega) (by omega) (by omega)]; omega), if_pos z00, e22, t2, r_startCommand_274, if_pos (by rw [zI_le (by omega) (by omega) (by omega) (by omega)]; omega)]
      rfl
    rw [hr89]
    -- the tool
    have H10 : zRn (sI u9 9 0 ((cI u9 9 0) + 1)) (tI (tI r9 22 (e : Int)) 48 ((rI r9 48) + 1)) m n K L A B c2 hb k := by
      have t7' : zRn u9 (tI r9 22 (e : Int)) m n K L A B c2 hb k := zRn_fr t7 (zFr_rf 7777 7777 0 0 u9) ⟨Or.inr (Or.inr rfl), Or.inr (Or.inr rfl)⟩ (zq_I [22] [] r9 22 _ (by decide)) (by decide) (by decide) t7.2.2.2.2.2.1.1
      obtain ⟨q1, q2, q3, q4, q5, q6, q7, q8, q9⟩ := t7'
      refine ⟨q1, q2, q3, ?_, q5, q6, q7, q8, q9⟩
      show rI r9 48 + 1 = cI u9 9 0 + 1
      have : rI r9 48 = cI u9 9 0 := q4
      rw [this]
    have e24_9 : rA r9 24 k = rA r7 24 k := t9.2.2.1 24 k (by decide)
    have E : zEv (sI u9 9 0 ((cI u9 9 0) + 1)) (tI (tI r9 22 (e : Int)) 48 ((rI r9 48) + 1)) c2 hb k x8 ws := by
      refine ⟨H10.1.1, H10.1.2.2, ⟨t3, t4, t5, t6⟩, ⟨hk5, H10.2.2.2.2.2.2.2.1.2⟩, H10.2.2.2.2.1, H10.2.2.2.2.2.1.1, ?_⟩
      show (x8 = 2 ∧ rA r9 24 k = -1) ∨ ∃ b : Nat, b < 10 ∧ x8 = zbt b ∧ rA r9 24 k = (b : Int)
      rw [e24_9]
      exact x82
    have hH9 : zH u9 (4 + 4 * k) [] := zFr_H t8 (by omega) h7out
    have hHr9 : zHr r9 [] := zHr_keep t9 (by decide) (by decide) h7r
    have hH9' : zH (sI u9 9 0 ((cI u9 9 0) + 1)) (4 + 4 * k) [] := hH9
    have hHr9' : zHr (tI (tI r9 22 (e : Int)) 48 ((rI r9 48) + 1)) [] := hHr9
    obtain ⟨st, st2, w, u11, r11, c3, h3, y1, y2, y3, y4, y5, y6, y7, y8, y9, y10, y11, y12, y13, y14, y15⟩ := run_alike F hF E H10.2.2.2.2.2.1.2 H10.1.2.1 hH9' hHr9'
    rw [y1, y2]
    simp only [zb2_some]
    have hx8 := zIp_in x82
    have H11 : zRn u11 r11 m n K L A B c3 h3 k := zRn_kt H10 y10 ⟨hx8.2.1, fun j => (hx8.2.2.2 j).1⟩ y11 (by decide) (by decide) y7 y8 y9 y12 y13 y14
    have hlo11 : zLo k u u11 := by
      refine zLo_tr hlo7 (zLo_tr (zLo_fr t8 (fun j hj => by omega)) ?_)
      have hz : zLo k u9 (sI u9 9 0 ((cI u9 9 0) + 1)) := fun j hj => ⟨rfl, rfl, rfl, rfl, fun _ => rfl⟩
      exact zLo_tr hz (zKt_lo y10 (fun j hj => ⟨by omega, (hx8.2.2.2 j).2⟩) (by omega))
    have hq11 : zq [9, 16, 19, 22, 35, 36, 38, 39, 42, 43, 44, 48] [3, 4, 5, 6, 7, 17, 18, 20, 33, 34, 37, 40, 41] r7 r11 := zq_tr (zq_tr (zq_tr (zq_mono t9 (by decide) (by decide)) (zq_I _ _ r9 22 _ (by decide))) (zq_I _ _ _ 48 _ (by decide))) (zq_mono y11 (by decide) (by decide))
    have hlk11 : zLk k r r11 := zLk_tr hlk7 (zLk_q hq11 (by decide))
    have hr11 : rA r11 28 k = rA r 28 k ∧ rA r11 29 k = rA r 29 k ∧ rA r11 23 k = rA r 23 k ∧ rA r11 27 k = (hb : Int) := by
      rw [hq11.2.2.1 28 k (by decide), hq11.2.2.1 29 k (by decide), hq11.2.2.1 23 k (by decide), hq11.2.2.1 27 k (by decide)]
      exact hr7
    have h22_11 : rI r11 22 = (e : Int) := by rw [y11.1 22 (by decide)]; rfl
    have hd11 : ∀ y, y ≤ c → cP u11 6 y = cP u 6 y := fun y hy => by
      rw [y15 y (by omega)]
      show cP u9 6 y = _
      rw [t8.2.2.1 6 y (by omega)]
      exact hd7 y hy
    have h6_11 : cP u11 6 hb = none := by
      rw [y15 hb (by omega)]
      show cP u9 6 hb = none
      rw [t8.2.2.1 6 hb (by omega)]
      exact h6_7
    have hLv11 : zLv u11 r11 c3 k inp := by
      have e11 : cI u11 11 k = cI u7 11 k := by
        rw [y10.1 11 k (by omega) (by omega)]
        show cI u9 11 k = _
        exact t8.1 11 k (by omega) (by omega)
      have e4 : cP u11 4 k = cP u7 4 k := by
        rw [y10.2.1 k]
        show cP u9 4 k = _
        exact t8.2.2.1 4 k (by omega)
      have e6 : ∀ x, x ≤ c2 → cP u11 6 x = cP u7 6 x := fun x hx => by
        rw [y15 x hx]
        show cP u9 6 x = _
        exact t8.2.2.1 6 x (by omega)
      refine ⟨?_, ?_⟩
      · rw [e11, hq11.2.2.1 24 k (by decide)]
        exact b4.1
      · rw [e4, hq11.2.2.1 26 k (by decide)]
        rcases b4.2 with hv | ⟨y, z1, z2, z3, z4, z5⟩
        · exact Or.inl hv
        · exact Or.inr ⟨y, z1, z2, z3, by omega, (e6 y z4).trans z5⟩
    have hcap := (zcap H11.1.2.2 k hk5).1
    rcases y3 with ⟨y3, y3b⟩ | ⟨y3, y3b⟩
    · have y3' := y3.symm
      subst y3'
      by_cases hfit : (w.length : Int) ≤ rI r11 2
      · by_cases h0 : st = 0
        · -- ended well
          subst h0
          have hs36 := (y6.2.2.1 hfit).1
          rw [if_pos (by decide)]
          simp only [Option.bind_some, hs36, if_pos z00]
          refine ⟨c3, u11, r11, by omega, hd11, hlo11, hlk11, hr11, Or.inr (Or.inr ⟨0, h3, w, Or.inl rfl, rfl, rfl, h22_11, ?_, hLv11, y5, (y6.2.2.1 hfit).2, hfit, hr11.2.2.2, by omega, h6_11, Or.inr ⟨rfl, H11.1.1.2.2.2.2.1⟩, by rw [hr11.1]; exact h28⟩)⟩
          rw [tI_eq H11.1.1.2.2.2.2.1]
          exact H11
        · -- a status of its own
          have hw0 := y4 h0
          subst hw0
          have hstp : ¬ zI st ≤ 0 := by
            rw [zI_le0 (by omega) (by omega)]
            omega
          rw [if_neg hstp]
          have e36 : rI (tI (tI r11 35 0) 36 0) 36 = 0 := rfl
          simp only [Option.bind_some, e36, if_pos z00]
          have hq12 : zq [35, 36] [] r11 (tI (tI r11 35 0) 36 0) := zq_tr (zq_I _ _ r11 35 0 (by decide)) (zq_I _ _ _ 36 0 (by decide))
          have H12 : zRn u11 (tI (tI r11 35 0) 36 0) m n K L A B c3 h3 k := zRn_fr H11 (zFr_rf 7777 7777 0 0 u11) ⟨Or.inr (Or.inr rfl), Or.inr (Or.inr rfl)⟩ hq12 (by decide) (by decide) H11.2.2.2.2.2.1.1
          have hHr12 : zHr (tI (tI r11 35 0) 36 0) [] := ⟨y6.1, ⟨Int.le_refl _, by have := y6.1; show (0 : Int) ≤ rI r11 2; omega⟩, fun _ => ⟨rfl, rfl, fun i hi => absurd hi (Nat.not_lt_zero i)⟩, fun hh => by have hh : rI r11 2 < 0 := hh; have := y6.1; omega⟩
          refine ⟨c3, u11, tI (tI r11 35 0) 36 0, by omega, hd11, hlo11, zLk_tr hlk11 (zLk_q hq12 (by decide)), hr11, Or.inr (Or.inr ⟨st, h3, [], y3b, rfl, rfl, h22_11, ?_, hLv11, y5, (hHr12.2.2.1 hfit).2, hfit, hr11.2.2.2, by omega, h6_11, Or.inr ⟨rfl, H11.1.1.2.2.2.2.1⟩, by show rA r11 28 k = 0 ∨ rA r11 28 k = 1; rw [hr11.1]; exact h28⟩)⟩
          rw [tI_eq H12.1.1.2.2.2.2.1]
          exact H12
      · -- it spilled
        have hst0 : st = 0 := by
          apply Classical.byContradiction
          intro hne
          have := y4 hne
          subst this
          have := y6.1
          exact hfit (by show (0 : Int) ≤ rI r11 2; omega)
        subst hst0
        have hs36 := y6.2.2.2 (by omega)
        have hsp := y5.2.2.1 (by omega)
        rw [if_pos (by decide)]
        simp only [Option.bind_some, hs36, if_neg z10]
        refine ⟨c3, u11, r11, by omega, hd11, hlo11, hlk11, hr11, Or.inl ⟨?_, rfl, h3, H11, h6_11⟩⟩
        unfold zTlC
        rw [if_neg (by decide), hsp, if_neg z10]
        rfl
    · -- no more nodes
      subst y3
      subst y3b
      have hw0 := y4 (by decide)
      subst hw0
      have hs36 := (y6.2.2.1 (by have := y6.1; show (0 : Int) ≤ rI r11 2; omega)).1
      rw [if_pos (by decide)]
      simp only [Option.bind_some, hs36, if_pos z00]
      refine ⟨c3, u11, r11, by omega, hd11, hlo11, hlk11, hr11, Or.inl ⟨?_, rfl, h3, H11, h6_11⟩⟩
      unfold zTlC
      rw [if_pos rfl]
      rfl
  · -- a redirection failed
    subst b8
    rw [if_neg z10, b9]
    have hq12 : zq [22] [] r7 (tI r7 22 (e : Int)) := zq_I _ _ r7 22 _ (by decide)
    have H12 : zRn u7 (tI r7 22 (e : Int)) m n K L A B c2 hb k := zRn_fr b2 (zFr_rf 7777 7777 0 0 u7) ⟨Or.inr (Or.inr rfl), Or.inr (Or.inr rfl)⟩ hq12 (by decide) (by decide) b2.2.2.2.2.2.1.1
    refine ⟨c2, u7, tI r7 22 (e : Int), b3, hd7, hlo7, zLk_tr hlk7 (zLk_q hq12 (by decide)), hr7, Or.inr (Or.inl ⟨rfl, rfl, rfl, ?_, b4, h7out, (h7r.2.2.1 (by have := h7r.1; show (0 : Int) ≤ rI r7 2; omega)).2, ?_, hr7.2.2.2, by omega, h6_7, Or.inr ⟨rfl, h9_7⟩, by show rA r7 28 k = 0 ∨ rA r7 28 k = 1; rw [hr7.1]; exact h28⟩)⟩
    · rw [tI_eq H12.1.1.2.2.2.2.1]
      exact H12
    · have := h7r.1
      show (0 : Int) ≤ rI r7 2
      omega
  · -- no more nodes for a target
    subst b8
    rw [if_neg (by decide), b9]
    rw [tI_self]
    exact ⟨c2, u7, r7, b3, hd7, hlo7, hlk7, hr7, Or.inl ⟨rfl, rfl, hb, b2, h6_7⟩⟩
