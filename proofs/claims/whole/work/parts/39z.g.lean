/-! a group in the loop -/
theorem zH_nil {u : ZC} {t : Nat} (h1 : cI u 0 t = 0) (h2 : cI u 1 t = 0) : zH u t [] := ⟨⟨by rw [h1]; exact Int.le_refl _, by rw [h1]; omega⟩, fun _ => ⟨h2, h1, Nat.zero_le _, fun i hi => absurd hi (Nat.not_lt_zero i), fun x hx => by cases hx⟩, fun h => absurd h (Nat.not_lt_zero _), fun x hx => by cases hx⟩
theorem cmd_group (F : Nat) (hF : 500 ≤ F) (D : Nat) {u : ZC} {r : ZR} {m n c hb k inp : Nat} {K L A B : Nat → Int} (HS : zSt m n K L A B) (H : zRn u r m n K L A B c hb k) (HLst : k < 4 → zLst F m n K L A B (k + 1) (cRunner_runList F D)) (p : Nat) (s : Int) (hpm : p < m) (hs : 0 ≤ s ∧ s ≤ 3) (hA : zA K m p s k = true) (hkp : K p = 5) (h22 : rI r 22 = (p : Int)) (hin : zIp inp (rA r 25 k)) (h28 : rA r 28 k = 0 ∨ rA r 28 k = 1) (nn t : Nat) (hn : nn + t = F) (ht : t ≤ p) :
    p < zF qP K m p 0 ∧ zCmd F m n K L A B k hb (zF qP K m p 0) u r c (cRunner_runCommand F (cRunner_runList F (D + 1)) u (p : Int) ((zF qP K m p 0 : Nat) : Int) (k : Int) inp) (r_execute_6 F nn r (t : Int)) := by
  have hm64 : m ≤ 64 := by have := HS.1; have := HS.2.1; omega
  have hk5 : k < 5 := H.2.2.2.2.2.2.2.1.1
  have hz5 : zix (k : Int) 5 := ⟨by omega, by omega, by omega⟩
  -- the shape of the group
  obtain ⟨g1, g2⟩ := zA_in hpm hA
  rw [hkp] at g1 g2
  have hk4 : k < 4 ∧ znx s 5 k = 0 := by
    unfold znx at g1 ⊢
    rw [if_neg (by omega), if_neg (by omega), if_neg (by omega), if_pos rfl] at g1 ⊢
    by_cases hc : s < 4 ∧ (k : Int) < 4
    · rw [if_pos hc]; exact ⟨by omega, rfl⟩
    · rw [if_neg hc] at g1; omega
  have hLst := HLst hk4.1
  rw [hk4.2, show znd 5 (k : Int) = (k : Int) + 1 from rfl] at g2
  have hA1 : zA K m (p + 1) 0 ((k + 1 : Nat) : Int) = true := by rw [show ((k + 1 : Nat) : Int) = (k : Int) + 1 by omega]; exact g2
  obtain ⟨q1, q2, q3, q4⟩ := st_close (K := K) (m := m) ((k : Int) + 1) (by omega) (m - (p + 1)) (p + 1) 0 0 rfl (by omega) (Int.le_refl _) (by rw [Int.add_zero]; exact g2)
  generalize hcl : zF qC K m (p + 1) 0 = cl at q1 q2 q3 q4
  rw [show (k : Int) + 1 - 1 = (k : Int) by omega] at q4
  obtain ⟨e, e1, e2, e3, e4, e5, -⟩ := st_tail HS.2.2.1 (k : Int) (m - (cl + 1)) (cl + 1) 6 rfl (by omega) q4 (Or.inl rfl)
  have hzF2 : zF qP K m (cl + 1) 0 = e := by
    rw [zF_words qP (fun k h1 h2 => by unfold qP; exact decide_eq_false (by omega)) K m e e2 (e - (cl + 1)) (cl + 1) rfl e1 (fun j h1 h2 => (e5 j h1 h2).1)]
    rcases e3 with e3 | e3
    · rw [e3]; exact zF_end (Nat.le_refl _)
    · by_cases hem : e < m
      · exact zF_hit hem rfl e3
      · rw [zF_end (by omega)]; omega
  have hzF : zF qP K m p 0 = e := by
    rw [zF_go hpm (show ¬ ((0 : Int) = 0 ∧ qP (K p) = true) by rw [hkp]; decide), hkp, show znd 5 0 = 0 + 1 from rfl, zF_group qP K m (m - (p + 1)) (p + 1) 0 rfl (Int.le_refl _) (by rw [hcl]; exact q2), hcl]
    exact hzF2
  rw [hzF]
  refine ⟨by omega, ?_⟩
  obtain ⟨nn, rfl⟩ : ∃ n', nn = n' + 1 := ⟨nn - 1, by omega⟩
  rw [exec_step F nn t r (by omega)]
  have hbc : hb ≤ c := H.1.1.2.2.2.2.2.1
  have h9 : rI r 9 = (hb : Int) := H.1.1.2.2.2.2.1
  obtain ⟨u1, a1, a2, a3, a4, a5, a6, a7, a8⟩ := pre_alike F H hin
  generalize hv : sP (sI u1 11 k 0) 4 k none = v at a2 a3 a4 a5 a6 a8
  obtain ⟨m64, k2, k12, kK, kR⟩ := zTs_K HS a2.2.2.2.2.2.2.1
  obtain ⟨s1, s2, s3, s4⟩ := zSC_k r k
  have hqS := zSC_q r k
  have hsc := startCmd_is F (by omega) HS H p hpm h22
  rw [decide_eq_true hkp, zB_t, hzF] at hsc
  have hkat : cTokens_kindAt F v (p : Int) = some 5 := by
    rw [ckat (K := K) m64 k2 (fun j hj => (kK j hj).1) p (by omega)]
    unfold zkt
    rw [if_pos hpm, hkp]
  have hKv : cA v 1 0 = cA v 1 0 := rfl
  have hfind : cTokens_find F v ((p : Int) + 1) (e : Int) 6 6 = some (cl : Int) := by
    have hKeq : ∀ (f i : Nat) (d : Int), m - i = f → zF qC (cA v 1 0) m i d = zF qC K m i d := by
      intro f
      induction f with
      | zero => intro i d hf; rw [zF_end (by omega), zF_end (by omega)]
      | succ f ih =>
        intro i d hf
        have ek := (kK i (by omega)).1
        by_cases hc : d = 0 ∧ qC (K i) = true
        · rw [zF_hit (by omega) hc.1 hc.2, zF_hit (by omega) hc.1 (by rw [ek]; exact hc.2)]
        · rw [zF_go (by omega) hc, zF_go (by omega) (by rw [ek]; exact hc), ek]
          exact ih (i + 1) _ (by omega)
    have := cfind_hit F (u := v) m64 k2 (fun j hj => by rw [(kK j hj).1]; exact (kK j hj).2) e (by omega) (m - (p + 1)) (p + 1) F 0 rfl (by omega) (by omega) (by omega) (by rw [hKeq _ _ _ rfl, hcl]; omega)
    rw [hKeq _ _ _ rfl, hcl] at this
    unfold cTokens_find
    rw [show (p : Int) + 1 = ((p + 1 : Nat) : Int) by omega]
    exact this
  have hlinp : ∀ w : ZC, zlT w inp := fun w => Or.inl (zIp_in hin).1
  have hcls : cRunner_runCommand F (cRunner_runList F (D + 1)) u (p : Int) (e : Int) (k : Int) inp = (zb2 (cRunner_redirect F v (cl : Int) (e : Int) k) fun (p6 : Int) (u7 : ZC) => if zI p6 = 0 then (Option.bind (if zI (cI u7 11 k) = 0 then some inp else some (6 + 4 * k)) fun (x8 : Nat) => zb2 (cRunner_runGroup F (cRunner_runList F (D + 1)) u7 ((p : Int) + 1) (cl : Int) (k : Int) x8) fun (p12 : Int) (u13 : ZC) => zTlC F k p12 u13) else some (p6, u7)) := by
    unfold cRunner_runCommand
    rw [if_pos hz5, Int.toNat_natCast, a1]
    simp only [Option.bind_some, hv, hkat, not_true, if_false, z10, hfind, if_pos (hlinp v)]
    congr 1
    funext p6 u7
    by_cases hp6 : zI p6 = 0
    · rw [if_pos hp6, if_pos hp6]
      congr 1
      funext x8
      cases cRunner_runGroup F (cRunner_runList F (D + 1)) u7 ((p : Int) + 1) (cl : Int) (k : Int) x8 with
      | none => rfl
      | some y => rfl
    · rw [if_neg hp6, if_neg hp6]
  -- over the group to its redirections
  obtain ⟨F', hF'⟩ : ∃ F', F = F' + 1 := ⟨F - 1, by omega⟩
  have hred0 : cRunner_redirect F v (cl : Int) (e : Int) k = cRunner_redirect_6 F F' v (e : Int) k 0 ((cl + 1 : Nat) : Int) := by
    have : ∀ N, cRunner_redirect_6 F (N + 1) v (e : Int) k 0 (cl : Int) = cRunner_redirect_6 F N v (e : Int) k 0 ((cl + 1 : Nat) : Int) := by
      intro N
      rw [cRunner_redirect_6, if_neg (by rw [zI_le (by omega) (by omega) (by omega) (by omega)]; omega), if_neg (not_not_intro z00), cisred m64 k2 kK cl (by omega), decide_eq_false (by omega)]
      simp only [Option.bind_some, reduceCtorEq, if_false, zB_f, if_pos z00, zb2_some]
      rw [show (cl : Int) + 1 = ((cl + 1 : Nat) : Int) by omega]
    unfold cRunner_redirect
    conv => lhs; arg 2; rw [hF']
    exact this F'
  have hkRS : ∀ j, j < m → (0 ≤ K j ∧ K j ≤ 10) ∧ rA (zSC r k) 13 j = zrk (K j) := kR
  obtain ⟨G, hG⟩ : ∃ G, F = (G + (cl + 1 - (p + 1))) + 1 := ⟨F - 1 - (cl + 1 - (p + 1)), by omega⟩
  have hscan : r_startCommand_89 F F (zSC r k) 1 (e : Int) 0 (p : Int) = r_startCommand_89 F G (zSC r k) 1 (e : Int) 0 ((cl + 1 : Nat) : Int) := by
    have hfirst : ∀ N, r_startCommand_89 F (N + 1) (zSC r k) 1 (e : Int) 0 (p : Int) = r_startCommand_89 F N (zSC r k) 1 (e : Int) (0 + 1) ((p + 1 : Nat) : Int) := by
      intro N
      rw [r_startCommand_89, if_neg (by rw [zI_le (by omega) (by omega) (by omega) (by omega)]; omega), if_pos (show zix (p : Int) 64 from ⟨by omega, by omega, by omega⟩), Int.toNat_natCast, (hkRS p hpm).2, hkp, if_neg (not_not_intro (show zI (zrk 5) = zI 8 by decide))]
      simp only [Option.bind_some]
      rw [if_pos (show ¬ zI (0 + 1) = 0 by decide)]
      simp only [Option.bind_some, if_true]
      rw [show (p : Int) + 1 = ((p + 1 : Nat) : Int) by omega]
    have hs89 := scan89 F m64 hkRS e e2 1 (m - (p + 1)) (p + 1) 0 G rfl (by omega) (by rw [hcl]; omega) (by rw [hcl]; exact q1)
    rw [hcl] at hs89
    conv => lhs; arg 2; rw [hG]
    rw [hfirst, hs89]
  obtain ⟨st, c2, u7, r7, b1, b2, b3, b4, b5, b6, b7, b10, b8⟩ := redirs F (by omega) HS e e2 1 (e - (cl + 1)) (cl + 1) F' G c v (zSC r k) rfl e1 (by omega) (by omega) a2 a3 e5
  rw [hsc, hscan, hcls, hred0, b1]
  simp only [zb2_some]
  have hr7 : rA r7 28 k = rA r 28 k ∧ rA r7 29 k = rA r 29 k ∧ rA r7 23 k = rA r 23 k ∧ rA r7 27 k = (hb : Int) := by
    refine ⟨?_, ?_, ?_, ?_⟩
    · rw [b7.1.2.2.1 28 k (by decide), hqS.2.2.1 28 k (by decide)]
    · rw [b7.1.2.2.1 29 k (by decide), hqS.2.2.1 29 k (by decide)]
    · rw [b7.1.2.2.1 23 k (by decide), hqS.2.2.1 23 k (by decide)]
    · rw [b7.1.2.2.1 27 k (by decide), s1]
      exact h9
  have hlo7 : zLo k u u7 := zLo_tr a6 b5
  have hlk7 : zLk k r r7 := zLk_tr a7 (zRk_lk b7)
  have h7out : zH u7 (4 + 4 * k) [] := zT4_H b6 a4
  have h7r : zHr r7 [] := zHr_keep b7.1 (by decide) (by decide) a5
  have h9_7 : rI r7 9 = (hb : Int) := b2.1.1.2.2.2.2.1
  have h6_7 : cP u7 6 hb = none := b2.1.1.2.2.2.2.2.2.1
  have h1_7 : cP u7 1 0 = some hb := b2.1.1.2.2.2.1
  have h22_7 : rI r7 22 = (p : Int) := by rw [b7.1.1 22 (by decide)]; exact h22
  have h21_7 : rI r7 21 = (k : Int) := b2.2.2.2.2.2.2.2.1.2
  have hd7 : ∀ y, y ≤ c → cP u7 6 y = cP u 6 y := fun y hy => (b10 y hy).trans (a8 6 y (by omega))
  have hN : nn + t + 1 = F ∧ t < e ∧ k + 1 ≤ F := ⟨by omega, by omega, by omega⟩
  rcases b8 with ⟨b8, n3, b9⟩ | ⟨b8, b9⟩ | ⟨b8, b9⟩
  · subst b8
    rw [if_pos z00, b9]
    obtain ⟨x8, x81, x82⟩ := zLv_src hk5 b4
    rw [x81]
    simp only [Option.bind_some]
    have hx8 := zIp_in x82
    -- both go one level deeper
    generalize hr6 : tA (tA (tI (tI r7 22 ((p + 1 : Nat) : Int)) 21 ((k + 1 : Nat) : Int)) 23 (k + 1) (rA r7 24 k)) 31 (k + 1) 0 = r6
    have hq6 : zq [21, 22] [23, 31] r7 r6 := by
      rw [← hr6]
      exact zq_tr (zq_tr (zq_tr (zq_I _ _ r7 22 _ (by decide)) (zq_I _ _ _ 21 _ (by decide))) (zq_A _ _ _ 23 _ _ (by decide))) (zq_A _ _ _ 31 _ _ (by decide))
    have e22_6 : rI r6 22 = ((p + 1 : Nat) : Int) := by rw [← hr6]; rfl
    have e21_6 : rI r6 21 = ((k + 1 : Nat) : Int) := by rw [← hr6]; rfl
    have e23_6 : rA r6 23 (k + 1) = rA r7 24 k := by
      rw [← hr6]
      show (if 23 = 31 ∧ k + 1 = k + 1 then 0 else if 23 = 23 ∧ k + 1 = k + 1 then rA r7 24 k else _) = _
      rw [if_neg (by omega), if_pos ⟨rfl, rfl⟩]
    have e31_6 : rA r6 31 (k + 1) = 0 := by
      rw [← hr6]
      show (if 31 = 31 ∧ k + 1 = k + 1 then (0 : Int) else _) = _
      rw [if_pos ⟨rfl, rfl⟩]
    have e31_o : ∀ j, j ≤ k → rA r6 31 j = rA r7 31 j ∧ rA r6 23 j = rA r7 23 j := by
      intro j hj
      rw [← hr6]
      refine ⟨?_, ?_⟩
      · show (if 31 = 31 ∧ j = k + 1 then (0 : Int) else if 31 = 23 ∧ j = k + 1 then rA r7 24 k else rA r7 31 j) = _
        rw [if_neg (by omega), if_neg (by omega)]
      · show (if 23 = 31 ∧ j = k + 1 then (0 : Int) else if 23 = 23 ∧ j = k + 1 then rA r7 24 k else rA r7 23 j) = _
        rw [if_neg (by omega), if_neg (by omega)]
    obtain ⟨u8, c1, c2', c3⟩ := clear_is F (u := u7) (t := 3 + 4 * (k + 1)) (Or.inl (by omega))
    have H8 : zRn u8 r6 m n K L A B c2 hb (k + 1) := by
      obtain ⟨⟨w1, w2, w3⟩, w4, w5, w6, w7, ⟨w8, w9⟩, w10, w11, w12⟩ := b2
      have hb3 : ∀ y, y < 10 → 3 + 4 * (k + 1) ≠ zbt y := fun y hy => fun e => ((zbt_in y hy).2.2 (k + 1)).2 e.symm
      refine ⟨⟨zTree_fr c3 (Or.inl (by omega)) (Or.inl (by omega)) hq6 (by decide) (by decide) w1, by rw [c3.1 4 0 (by omega) (by omega)]; exact w2, zlim_fr c3 hq6 (by decide) w3⟩, ?_, ?_, ?_, zBs_fr c3 ⟨by omega, hb3⟩ ⟨by omega, hb3⟩ hq6 (by decide) w7, ⟨zPb_fr c3 w8, zTg_fr c3 w9⟩, zTs_fr c3 (by omega) hq6 (by decide) (by decide) w10, ⟨by omega, e21_6⟩, fun j hj => ?_⟩
      · rw [c3.1 7 0 (by omega) (by omega), c3.1 5 0 (by omega) (by omega), zsum_eq (fun i => hq6.2.2.1 3 i (by decide)) (fun i => hq6.2.2.1 7 i (by decide)) 13 0]
        exact w4
      · rw [c3.1 8 0 (by omega) (by omega), hq6.1 45 (by decide)]; exact w5
      · rw [c3.1 9 0 (by omega) (by omega), hq6.1 48 (by decide)]; exact w6
      · by_cases hjk : j = k + 1
        · subst hjk
          exact ⟨[], (c2'.2.1 (Nat.zero_le _)).2, by rw [e31_6]; rfl, fun i hi => absurd hi (Nat.not_lt_zero i)⟩
        · obtain ⟨l, l1, l2, l3⟩ := w12 j (by omega)
          exact ⟨l, zFr_T c3 (by omega) l1, by rw [(e31_o j (by omega)).1]; exact l2, fun i hi => by rw [hq6.2.2.1 30 _ (by decide)]; exact l3 i hi⟩
    obtain ⟨sp1, sp2, sp3⟩ := startPipe_is F (by omega) HS H8 (p + 1) (by omega) e22_6
    have hr89 : r_startCommand_89 F (n3 + 1) r7 1 (e : Int) 0 (e : Int) = some (-1, zSP r6 K m (k + 1) (p + 1)) := by
      have hzk : zix (k : Int) 5 := hz5
      have hzk1 : zix ((k + 1 : Nat) : Int) 5 := ⟨by omega, by omega, by omega⟩
      rw [r_startCommand_89, if_pos (by rw [zI_le (by omega) (by omega) (by omega) (by omega)]; omega), if_neg z10]
      have x22 : (rI r7 22) + 1 = ((p + 1 : Nat) : Int) := by omega
      have x21 : (rI (tI r7 22 ((p + 1 : Nat) : Int)) 21) + 1 = ((k + 1 : Nat) : Int) := by show rI r7 21 + 1 = _; omega
      rw [x22, x21]
      simp only [Option.bind_some]
      have y21 : rI (tI (tI r7 22 ((p + 1 : Nat) : Int)) 21 ((k + 1 : Nat) : Int)) 21 = ((k + 1 : Nat) : Int) := rfl
      have y21' : ∀ v, rI (tA (tI (tI r7 22 ((p + 1 : Nat) : Int)) 21 ((k + 1 : Nat) : Int)) 23 (k + 1) v) 21 = ((k + 1 : Nat) : Int) := fun _ => rfl
      rw [y21, show ((k + 1 : Nat) : Int) - 1 = (k : Int) by omega, if_pos hzk, if_pos hzk1, Int.toNat_natCast, Int.toNat_natCast, y21', if_pos hzk1, Int.toNat_natCast]
      have y24 : rA (tI (tI r7 22 ((p + 1 : Nat) : Int)) 21 ((k + 1 : Nat) : Int)) 24 k = rA r7 24 k := rfl
      rw [y24, hr6, sp1]
      rfl
    rw [hr89]
    simp only [zb2_some]
    rw [if_pos (by decide), if_pos (by decide)]
    have haft : r_execute_41 F (r_execute_6 F nn) F (zSP r6 K m (k + 1) (p + 1)) (t : Int) (-1) = r_execute_6 F nn (zSP r6 K m (k + 1) (p + 1)) ((t + 1 : Nat) : Int) := by
      conv => lhs; arg 3; rw [hF']
      rw [aft_neg F _ nn F' (t : Int) (-1) (by decide), show (t : Int) + 1 = ((t + 1 : Nat) : Int) by omega]
    rw [haft]
    obtain ⟨b, c4, u9, r9, d1, d2, d3, d4, d5, d6⟩ := hLst u8 r6 c2 hb (p + 1) x8 nn (t + 1) H8 e22_6 (by omega) (by rw [e23_6]; exact x82) hA1 (Or.inr (by rw [Nat.add_sub_cancel, hkp]; omega)) (by omega) (by omega)
    rw [hcl] at d1 d6
    have hlk8 : zLk (k + 1) r7 r6 := by
      intro f h1 h2 j hj
      by_cases h23 : f = 23
      · subst h23; exact (e31_o j (by omega)).2
      · have : f = 24 ∨ f = 25 ∨ f = 26 ∨ f = 27 ∨ f = 28 ∨ f = 29 := by omega
        rcases this with rfl | rfl | rfl | rfl | rfl | rfl
        · exact hq6.2.2.1 24 j (by decide)
        · exact hq6.2.2.1 25 j (by decide)
        · exact hq6.2.2.1 26 j (by decide)
        · exact hq6.2.2.1 27 j (by decide)
        · exact hq6.2.2.1 28 j (by decide)
        · exact hq6.2.2.1 29 j (by decide)
    have hlk9 : zLk (k + 1) r7 r9 := zLk_tr hlk8 d5
    have hlo9 : zLo (k + 1) u7 u9 := zLo_tr (zLo_fr c3 (fun j hj => by omega)) d4
    have hd9 : ∀ y, y ≤ c → cP u9 6 y = cP u 6 y := fun y hy => by
      rw [d3 y (by omega), c3.2.2.1 6 y (by omega)]
      exact hd7 y hy
    have h6_9 : cP u9 6 hb = none := by rw [d3 hb (by omega), c3.2.2.1 6 hb (by omega)]; exact h6_7
    have h27_9 : rA r9 27 k = (hb : Int) := by rw [hlk9 27 (by omega) (by omega) k (by omega)]; exact hr7.2.2.2
    have hr9 : rA r9 28 k = rA r 28 k ∧ rA r9 29 k = rA r 29 k ∧ rA r9 23 k = rA r 23 k := by
      rw [hlk9 28 (by omega) (by omega) k (by omega), hlk9 29 (by omega) (by omega) k (by omega), hlk9 23 (by omega) (by omega) k (by omega)]
      exact ⟨hr7.1, hr7.2.1, hr7.2.2.1⟩
    have hgrp : cRunner_runGroup F (cRunner_runList F (D + 1)) u7 ((p : Int) + 1) (cl : Int) (k : Int) x8 = (if ¬ zI b = 0 then (zb2 (cText_addAll F (sP u9 1 0 (some hb)) (4 + 4 * k) (3 + 4 * (k + 1))) fun (p4 : Int) (u5 : ZC) => some (cI u5 8 0, u5)) else some (100, sP u9 1 0 (some hb))) := by
      have hlO : zlO u7 (some hb) := by
        show decide (zlN u7 hb) = true
        exact decide_eq_true (zlN_of b2.1.1 (by omega))
      unfold cRunner_runGroup
      rw [h1_7]
      simp only [Option.bind_some, if_pos hlO]
      rw [show (k : Int) + 1 = ((k + 1 : Nat) : Int) by omega, show (p : Int) + 1 = ((p + 1 : Nat) : Int) by omega, cRunner_runList, if_pos (by rw [zI_le (by omega) (by omega) (by omega) (by omega)]; omega), if_pos (show zix ((k + 1 : Nat) : Int) 5 from ⟨by omega, by omega, by omega⟩), Int.toNat_natCast, c1]
      simp only [Option.bind_some, d1, zb2_some, if_pos hz5, if_pos (show zix ((k + 1 : Nat) : Int) 5 from ⟨by omega, by omega, by omega⟩), Int.toNat_natCast]
    rw [hgrp]
    rcases d6 with ⟨d6, d7, d8⟩ | ⟨d6, h3, n2, N2, t2, v2, d7, d8, d9, d10, d11, d12⟩
    · -- the line ended inside
      subst d6
      rw [if_neg (not_not_intro z00), d7]
      simp only [zb2_some]
      obtain ⟨c5, h5, lv, f1, f2, f3, f4, f5, f6⟩ := d8
      refine ⟨100, c4, sP u9 1 0 (some hb), r9, ?_, by omega, hd9, zLo_tr hlo7 (zLo_le hlo9 (by omega)), zLk_tr hlk7 (zLk_le hlk9 (by omega)), Or.inl ⟨rfl, rfl, ?_⟩⟩
      · unfold zTlC
        rw [if_pos rfl]
        rfl
      · rw [zhr_P]
        refine ⟨c5, hb, lv, by omega, ?_, f3, by omega, f5, ?_⟩
        · have g1 := zRn_lower f2
          have g2 := zRn_here g1 (x := hb) (by omega) h6_9
          exact g2
        · rw [if_neg (by omega)]
          exact h27_9.symm
    · -- the list came to its end
      subst d6
      rw [if_pos z10, d7]
      obtain ⟨N2, rfl⟩ : ∃ N', N2 = N' + 1 := ⟨N2 - 1, by omega⟩
      obtain ⟨m64', k2', k12', kK', kR'⟩ := zTs_K HS d8.2.2.2.2.2.2.1
      rw [aft_close F m64' k12' kR' n2 N2 cl (t2 : Int) v2 d9 q2 q3 (by omega)]
      -- the output of the list
      obtain ⟨w, w1, w2, w3⟩ := d8.2.2.2.2.2.2.2.2 (k + 1) (Nat.le_refl _)
      have hN9 := d8.1.2.2.2.2.2.2.2
      have hcapK := zcap d8.1.2.2 k hk5
      have hw96 : w.length ≤ 96 ∧ (w.length : Int) ≤ rI r9 2 := by have := w1.2.1; have := (hN9 (k + 1) (by omega)).1; omega
      have e9 := hlo9 k (by omega)
      have h0_7 := h7out.2.1 (Nat.zero_le _)
      have h0_9 : zH (sP u9 1 0 (some hb)) (4 + 4 * k) [] := zH_nil (by show cI u9 0 (4 + 4 * k) = 0; rw [e9.2.2.1]; exact h0_7.2.1) (by show cI u9 1 (4 + 4 * k) = 0; rw [e9.2.2.2.1]; exact h0_7.1)
      have hcap9 := (hN9 k hk5).2.1
      have hcap9L := (hN9 (k + 1) (by omega)).1
      have hpl9 := d8.1.2.2.2.2.1
      have w1' : zT (sP u9 1 0 (some hb)) (3 + 4 * (k + 1)) w := w1
      obtain ⟨pp, u10, x1, x2, x3, -⟩ := addAll_is F (u := sP u9 1 0 (some hb)) (t := 4 + 4 * k) (o := 3 + 4 * (k + 1)) (Or.inl (by omega)) (Or.inl (by omega)) (by show cN u9 (4 + 4 * k) ≤ 200; omega) (by show cN u9 (3 + 4 * (k + 1)) ≤ 200; omega) (by omega) h0_9 w1'
      rw [List.nil_append] at x2
      rw [x1]
      simp only [zb2_some]
      have e8_10 : cI u10 8 0 = cI u9 8 0 := x3.1 8 0 (by omega) (by omega)
      -- the reference closes the group
      obtain ⟨n6, r10, y1, y2, y3⟩ := copyClose F hw96.1 (k + 1) (by omega) w.length 0 F (tI r9 35 (w.length : Int)) (by omega) (by omega) rfl d8.2.2.2.2.2.2.2.1.2 w3 (fun i hi => absurd hi (Nat.not_lt_zero i))
      have y35 : rI r10 35 = (w.length : Int) := by rw [y3.1 35 (by decide)]; rfl
      have y21 : rI r10 21 = ((k + 1 : Nat) : Int) := by rw [y3.1 21 (by decide)]; exact d8.2.2.2.2.2.2.2.1.2
      have y22 : rI r10 22 = (cl : Int) := by rw [y3.1 22 (by decide)]; exact d9
      have y45 : rI r10 45 = cI u9 8 0 := by rw [y3.1 45 (by decide)]; exact d8.2.2.1.1
      have hclose : r_closeGroup F r9 = zb2 (r_endCommand F (tI (tI r10 21 (k : Int)) 22 (e : Int)) (cI u10 8 0) 1) (fun (p2 : Int) (u3 : ZR) => if zbl p2 then some (p2, u3) else none) := by
        unfold r_closeGroup
        rw [d8.2.2.2.2.2.2.2.1.2, if_pos (show zix ((k + 1 : Nat) : Int) 5 from ⟨by omega, by omega, by omega⟩), Int.toNat_natCast, w2]
        have y1' : r_closeGroup_15 F F (tI r9 35 (w.length : Int)) 0 = r_closeGroup_15 F (n6 + 1) r10 (w.length : Int) := y1
        rw [y1', r_closeGroup_15, y35, if_pos (by rw [zI_le (by omega) (by omega) (by omega) (by omega)]; omega), y21, show ((k + 1 : Nat) : Int) - 1 = (k : Int) by omega]
        have z22 : (rI (tI r10 21 (k : Int)) 22) + 1 = ((cl + 1 : Nat) : Int) := by show rI r10 22 + 1 = _; omega
        have k12'' : rI (tI r10 21 (k : Int)) 12 = (m : Int) := by show rI r10 12 = _; rw [y3.1 12 (by decide)]; exact k12'
        have kR'' : ∀ j, j < m → (0 ≤ K j ∧ K j ≤ 10) ∧ rA (tI r10 21 (k : Int)) 13 j = zrk (K j) := fun j hj => ⟨(kR' j hj).1, by show rA r10 13 j = _; rw [y3.2.2.1 13 j (by decide)]; exact (kR' j hj).2⟩
        have hpe := pend_is (r := tI r10 21 (k : Int)) F (by omega) m64' k12'' kR'' true (cl + 1) (by omega)
        have hpe' : r_pipelineEnd F (tI r10 21 (k : Int)) ((cl + 1 : Nat) : Int) 1 = some (e : Int) := by
          have : r_pipelineEnd F (tI r10 21 (k : Int)) ((cl + 1 : Nat) : Int) (zB true) = some ((zF qP K m (cl + 1) 0 : Nat) : Int) := hpe
          rw [hzF2] at this
          exact this
        rw [z22, hpe']
        simp only [Option.bind_some]
        have z45 : rI (tI (tI r10 21 (k : Int)) 22 (e : Int)) 45 = cI u10 8 0 := by show rI r10 45 = _; rw [y45, e8_10]
        rw [z45]
      rw [hclose, zb2_bl _ (fun p s h => endc_bl F _ _ _ _ _ h)]
      have hstat : cI u10 8 0 = 0 ∨ cI u10 8 0 = 1 ∨ cI u10 8 0 = 2 ∨ cI u10 8 0 = 127 := by rw [e8_10]; exact d12
      have hx6 : ∀ y, cP u10 6 y = cP u9 6 y := fun y => x3.2.2.1 6 y (by omega)
      have hlkr : ∀ f, 23 ≤ f → f ≤ 29 → ∀ j, rA (tI (tI r10 21 (k : Int)) 22 (e : Int)) f j = rA r9 f j := by
        intro f h1 h2 j
        show rA r10 f j = _
        have : f = 23 ∨ f = 24 ∨ f = 25 ∨ f = 26 ∨ f = 27 ∨ f = 28 ∨ f = 29 := by omega
        rcases this with rfl | rfl | rfl | rfl | rfl | rfl | rfl
        · exact y3.2.2.1 23 j (by decide)
        · exact y3.2.2.1 24 j (by decide)
        · exact y3.2.2.1 25 j (by decide)
        · exact y3.2.2.1 26 j (by decide)
        · exact y3.2.2.1 27 j (by decide)
        · exact y3.2.2.1 28 j (by decide)
        · exact y3.2.2.1 29 j (by decide)
      have M : zMid u10 (tI (tI r10 21 (k : Int)) 22 (e : Int)) m n K L A B c4 hb hb k inp 1 w := by
        refine ⟨?_, ⟨?_, ?_⟩, x2, ⟨y35, y2⟩, ?_, ?_, by omega, by rw [hx6]; exact h6_9, Or.inl ⟨rfl, rfl⟩, ?_⟩
        · have g1 := zRn_lower (zRn_here d8 (x := hb) (by omega) h6_9)
          have hq : zq [22, 35] [34] (tI (tI r9 9 (hb : Int)) 21 (k : Int)) (tI (tI (tI r10 21 (k : Int)) 22 (e : Int)) 9 (hb : Int)) := by
            refine ⟨fun f hf => ?_, fun f hf => y3.2.1 f (fun h => by cases h), fun f i hf => y3.2.2.1 f i hf, fun f i hf => y3.2.2.2 f i hf⟩
            show (if f = 9 then (hb : Int) else if f = 22 then (e : Int) else if f = 21 then (k : Int) else rI r10 f) = if f = 21 then (k : Int) else if f = 9 then (hb : Int) else rI r9 f
            by_cases f9 : f = 9
            · rw [if_pos f9, if_neg (by omega), if_pos f9]
            · rw [if_neg f9, if_neg (show ¬ f = 22 from fun h => hf (by rw [h]; decide)), if_neg f9]
              by_cases f21 : f = 21
              · rw [if_pos f21, if_pos f21]
              · rw [if_neg f21, if_neg f21, y3.1 f (fun h => by cases h)]
                show (if f = 35 then (w.length : Int) else rI r9 f) = _
                rw [if_neg (show ¬ f = 35 from fun h => hf (by rw [h]; decide))]
          exact zRn_fr g1 x3 ⟨Or.inr (Or.inl rfl), Or.inr (Or.inl rfl)⟩ hq (by decide) (by decide) (zPb_fr x3 g1.2.2.2.2.2.1.1)
        · rw [x3.1 11 k (by omega) (by omega), hlkr 24 (by omega) (by omega) k]
          show (cI u9 11 k = 0 ∧ _) ∨ (cI u9 11 k = 1 ∧ _)
          rw [e9.1, hlk9 24 (by omega) (by omega) k (by omega)]
          exact b4.1
        · rw [x3.2.2.1 4 k (by omega), hlkr 26 (by omega) (by omega) k]
          show (cP u9 4 k = none ∧ _) ∨ ∃ x, cP u9 4 k = _ ∧ _
          rw [e9.2.1, hlk9 26 (by omega) (by omega) k (by omega)]
          rcases b4.2 with hv | ⟨y, z1, z2, z3, z4, z5⟩
          · exact Or.inl hv
          · refine Or.inr ⟨y, z1, z2, z3, by omega, ?_⟩
            rw [hx6, d3 y z4, c3.2.2.1 6 y (by omega)]
            exact z5
        · show (w.length : Int) ≤ rI r10 2
          rw [y3.1 2 (by decide)]
          exact hw96.2
        · rw [hlkr 27 (by omega) (by omega) k]
          exact h27_9
        · rw [hlkr 28 (by omega) (by omega) k, hr9.1]
          exact h28
      have hlkF : zLk k r (tI (tI r10 21 (k : Int)) 22 (e : Int)) := fun f h1 h2 j hj => by
        rw [hlkr f h1 h2 j, hlk9 f h1 h2 j (by omega)]
        exact hlk7 f h1 h2 j hj
      have hlo10 : zLo k u u10 := zLo_tr (zLo_tr hlo7 (zLo_le hlo9 (by omega))) (by
        have h1 : zLo k u9 (sP u9 1 0 (some hb)) := fun j hj => ⟨rfl, rfl, rfl, rfl, fun _ => rfl⟩
        exact zLo_tr h1 (zLo_fr x3 (fun j hj => by omega)))
      exact mid_cmd F (by omega) n2 N2 t2 v2 6 (cI u10 8 0) _ rfl hstat M (by omega) (fun y hy => by rw [hx6]; exact hd9 y hy) hlo10 hlkF rfl ⟨d10.1, by omega, by omega⟩ d11 ⟨by rw [hlkr 28 (by omega) (by omega) k]; exact hr9.1, by rw [hlkr 29 (by omega) (by omega) k]; exact hr9.2.1, by rw [hlkr 23 (by omega) (by omega) k]; exact hr9.2.2⟩ (Or.inr rfl) e4
  · -- a redirection failed
    subst b8
    rw [if_neg z10, b9]
    simp only [zb2_some]
    rw [if_pos (by decide), if_neg (by decide)]
    have hq12 : zq [22] [] r7 (tI r7 22 (e : Int)) := zq_I _ _ r7 22 _ (by decide)
    have H12 : zRn u7 (tI r7 22 (e : Int)) m n K L A B c2 hb k := zRn_fr b2 (zFr_rf 7777 7777 0 0 u7) ⟨Or.inr (Or.inr rfl), Or.inr (Or.inr rfl)⟩ hq12 (by decide) (by decide) b2.2.2.2.2.2.1.1
    have M : zMid u7 (tI r7 22 (e : Int)) m n K L A B c2 hb hb k inp 0 [] := by
      refine ⟨?_, b4, h7out, (h7r.2.2.1 (by have := h7r.1; show (0 : Int) ≤ rI r7 2; omega)).2, ?_, hr7.2.2.2, by omega, h6_7, Or.inr ⟨rfl, h9_7⟩, by show rA r7 28 k = 0 ∨ rA r7 28 k = 1; rw [hr7.1]; exact h28⟩
      · rw [tI_eq H12.1.1.2.2.2.2.1]
        exact H12
      · have := h7r.1
        show (0 : Int) ≤ rI r7 2
        omega
    obtain ⟨h2, f1, f2⟩ := fin_empty F (by omega) M 1
    refine ⟨1, c2, u7, tI (tI r7 22 (e : Int)) 9 (h2 : Int), rfl, b3, hd7, hlo7, zLk_tr hlk7 (zLk_q (zq_tr (zq_I [9, 22] [] r7 22 (e : Int) (by decide)) (zq_I _ _ _ 9 (h2 : Int) (by decide))) (by decide)), Or.inr ⟨Or.inr (Or.inl rfl), h2, [], nn, F, t, 1, 6, by rw [f1], ?_, ?_, M.2.2.2.1, rfl, hN, by decide, ⟨hr7.1, hr7.2.1, hr7.2.2.1, hr7.2.2.2⟩, Or.inr rfl, e4⟩⟩
    · unfold zhr
      rw [← hr7.1]
      exact f2
    · have hT0 : zT u7 (4 + 4 * k) [] := (h7out.2.1 (Nat.zero_le _)).2
      unfold zhr
      split
      · exact hT0
      · exact hT0
  · subst b8
    rw [if_neg (by decide), b9, tI_self]
    simp only [zb2_some, not_true, if_false]
    exact ⟨100, c2, u7, r7, rfl, b3, hd7, hlo7, hlk7, Or.inl ⟨rfl, rfl, zFl_of b2 b3 (by omega) h6_7 hr7.1 hr7.2.2.2⟩⟩
