/-! ls on both sides -/
/-- how many of the nodes 1 .. k fulfil P -/
noncomputable def zcn (P : Nat → Prop) : Nat → Nat
  | 0 => 0
  | k + 1 => @ite Nat (P (k + 1)) (Classical.propDecidable _) 1 0 + zcn P k
theorem zcn_le (P : Nat → Prop) : ∀ k, zcn P k ≤ k := by
  intro k
  induction k with
  | zero => exact Nat.le_refl _
  | succ k ih =>
    rw [zcn]
    have : @ite Nat (P (k + 1)) (Classical.propDecidable _) 1 0 ≤ 1 := by split <;> omega
    omega
theorem zcn_mono {P Q : Nat → Prop} (h : ∀ x, Q x → P x) : ∀ k, zcn Q k ≤ zcn P k := by
  intro k
  induction k with
  | zero => exact Nat.le_refl _
  | succ k ih =>
    rw [zcn, zcn]
    have : @ite Nat (Q (k + 1)) (Classical.propDecidable _) 1 0 ≤ @ite Nat (P (k + 1)) (Classical.propDecidable _) 1 0 := by
      by_cases hq : Q (k + 1)
      · rw [if_pos hq, if_pos (h _ hq)]
        exact Nat.le_refl _
      · rw [if_neg hq]
        exact Nat.zero_le _
    omega
theorem zcn_lt {P Q : Nat → Prop} (h : ∀ x, Q x → P x) (y : Nat) (hP : P y) (hQ : ¬ Q y) : ∀ k, 1 ≤ y → y ≤ k → zcn Q k + 1 ≤ zcn P k := by
  intro k
  induction k with
  | zero => intro h1 h2; omega
  | succ k ih =>
    intro h1 h2
    rw [zcn, zcn]
    by_cases hy : y = k + 1
    · subst hy
      have := zcn_mono h k
      rw [if_neg hQ, if_pos hP]
      omega
    · have := ih h1 (by omega)
      have : @ite Nat (Q (k + 1)) (Classical.propDecidable _) 1 0 ≤ @ite Nat (P (k + 1)) (Classical.propDecidable _) 1 0 := by
        by_cases hq : Q (k + 1)
        · rw [if_pos hq, if_pos (h _ hq)]
          exact Nat.le_refl _
        · rw [if_neg hq]
          exact Nat.zero_le _
      omega
theorem zNx_fr {u w : ZC} {c d : Nat} {m : Int} {o : Option Nat} (h5 : ∀ x, cP w 5 x = cP u 5 x) (h0 : ∀ x, cJ w 0 x = cJ u 0 x) (H : zNx u c d m o) : zNx w c d m o := by
  unfold zNx zQ at H ⊢
  simp only [h5, h0]
  exact H
/-- no more names: the reference's turns run out -/
theorem ls_rest (F : Nat) (hF : 20 ≤ F) {u : ZC} {r : ZR} {c h : Nat} (H : zTree u r c h) (d : Nat) (hd : d ≤ c) (h42 : rI r 42 = (d : Int)) (nm : Int64) (hno : zNx u c d nm.toInt none) : ∀ (j t n : Nat), t + j = 12 → j < n → r_ls_77 F n r nm (t : Int) = some (0, r) := by
  intro j
  induction j with
  | zero =>
    intro t n ht hn
    obtain ⟨n, rfl⟩ : ∃ n', n = n' + 1 := ⟨n - 1, by omega⟩
    rw [r_ls_77, if_pos (by rw [zI_le (by omega) (by omega) (by omega) (by omega)]; omega)]
  | succ j ih =>
    intro t n ht hn
    obtain ⟨n, rfl⟩ : ∃ n', n = n' + 1 := ⟨n - 1, by omega⟩
    obtain ⟨o, o1, n2, o2⟩ := rls_loop F (r_ls_77 F n) H d hd h42 nm (t : Int) 12 1 F none (by omega) (by omega) (by omega) (Or.inl ⟨rfl, fun y g1 g2 => by omega⟩)
    have hon : o = none := zNx_u H o1 hno
    subst hon
    have o2' : r_ls_89 F (r_ls_77 F n) F r nm (t : Int) (-1) 1 = r_ls_89 F (r_ls_77 F n) (n2 + 1) r nm (t : Int) (-1) 13 := o2
    rw [r_ls_77, if_neg (by rw [zI_le (by omega) (by omega) (by omega) (by omega)]; omega), o2', r_ls_89, if_pos (by decide), if_pos (by decide)]
    simp only [zb2_some]
    rw [show (t : Int) + 1 = ((t + 1 : Nat) : Int) by omega]
    exact ih (t + 1) n (by omega) (by omega)
theorem ls_loop (F : Nat) (hF : 20 ≤ F) {c h : Nat} (d lev : Nat) (hlev : lev < 5) (hd : d ≤ c) : ∀ (N : Nat) (u : ZC) (r : ZR) (nm : Int64) (o : Option Nat) (i t n n2 : Nat) (acc : List Int), zTree u r c h → rI r 42 = (d : Int) → zlim u r → zH u (4 + 4 * lev) acc → zHr r acc → zNx u c d nm.toInt o → zcn (zQ u d nm.toInt) c = N → i + N ≤ c → t + N ≤ 12 → t ≤ 12 → N < n → 12 - t < n2 →
    ∃ (w : List Int) (u2 : ZC) (r2 : ZR), cTools_ls_89 F n u (4 + 4 * lev) d o (i : Int) = some (0, u2) ∧ r_ls_77 F n2 r nm (t : Int) = some (0, r2) ∧ zH u2 (4 + 4 * lev) w ∧ zHr r2 w ∧ zFr (4 + 4 * lev) (4 + 4 * lev) 0 0 u u2 ∧ zq [35, 36] [34] r r2 := by
  have hlt : ∀ u : ZC, zlT u (4 + 4 * lev) := fun u => Or.inl (by omega)
  intro N
  induction N using Nat.strongRecOn with
  | _ N ih =>
    intro u r nm o i t n n2 acc HT h42 HL hH hHr hNx hN hi ht ht12 hn hn2
    have hc12 := HT.1
    have e6 : cI u 6 0 = (c : Int) := HT.2.1
    obtain ⟨n, rfl⟩ : ∃ n', n = n' + 1 := ⟨n - 1, by omega⟩
    cases o with
    | none =>
      refine ⟨acc, u, r, ?_, ls_rest F hF HT d hd h42 nm hNx (12 - t) t n2 (by omega) (by omega), hH, hHr, zFr_rf _ _ _ _ u, zq_rf _ _ r⟩
      rw [cTools_ls_89]
      have : (if zI (cI u 6 0) ≤ zI (i : Int) then some true else Option.elim (none : Option Nat) (some true) fun (n12 : Nat) => some false) = some true := by
        split
        · rfl
        · rfl
      rw [this]
      rfl
    | some x =>
      obtain ⟨n2, rfl⟩ : ∃ n', n2 = n' + 1 := ⟨n2 - 1, by omega⟩
      have hNx0 := hNx
      rcases hNx with ⟨e, -⟩ | ⟨y, e, x1, x2, x3, x4⟩
      · cases e
      · have : y = x := (Option.some.inj e).symm
        subst this
        have hdec := zcn_lt (P := zQ u d nm.toInt) (Q := zQ u d (cJ u 0 y).toInt) (fun z hz => ⟨hz.1, by have := hz.2; have := x3.2; omega⟩) y x3 (fun hh => by have := hh.2; omega) c x1 x2
        rw [hN] at hdec
        obtain ⟨w, w1, w2, w3, w4⟩ := (HT.2.2.2.2.2.2.2.2.2.1 y x1 x2).2.2.2.2.1
        have e3 : cJ u 0 y = rL r 6 y := (HT.2.2.2.2.2.2.2.2.2.1 y x1 x2).2.2.1
        have hwl : zlw w := fun z hz => by
          have := w3 z hz
          unfold zNl at this
          omega
        obtain ⟨hc1, hc2, -⟩ := zcap HL lev hlev
        obtain ⟨u1, a1, a2, a3⟩ := addPacked_is F hF hwl (hlt u) hc2 hH
        obtain ⟨r1, b1, b2, b3⟩ := emitName_is F hF hwl hHr
        rw [← w4] at a1 b1
        -- the mark of a directory
        obtain ⟨acc2, u2, r2, m1, m2, m3, m4, m5, m6⟩ : ∃ (acc2 : List Int) (u2 : ZC) (r2 : ZR), (Option.elim (cP u1 6 y) (if zlT u1 (4 + 4 * lev) then (Option.bind (cText_add F u1 (4 + 4 * lev) 47) fun (u18 : ZC) => some u18) else none) fun (n17 : Nat) => some u1) = some u2 ∧ (if zI (rA r1 4 y) = 0 then some r1 else Option.bind (r_emit F r1 47) fun (u6 : ZR) => some u6) = some r2 ∧ zH u2 (4 + 4 * lev) acc2 ∧ zHr r2 acc2 ∧ zFr (4 + 4 * lev) (4 + 4 * lev) 0 0 u1 u2 ∧ zq [35, 36] [34] r1 r2 := by
          rw [a3.2.2.1 6 y (by omega), b3.2.2.1 4 y (by decide)]
          rcases zdir HT y x2 with ⟨d1, d2⟩ | ⟨d0, d1, d2⟩
          · obtain ⟨u2, p1, p2, p3⟩ := add_is F (hlt u1) (by rw [a3.2.2.2.2.1]; exact hc2) a2 47 (Or.inr (by omega))
            obtain ⟨r2, q1, q2, q3⟩ := emit_is F b2 47
            rw [d1, d2, if_neg z10]
            simp only [Option.elim_none, if_pos (hlt u1), p1, q1, Option.bind_some]
            exact ⟨_, u2, r2, rfl, rfl, p2, q2, p3, q3⟩
          · rw [d1, d2, if_pos z00]
            exact ⟨_, u1, r1, rfl, rfl, a2, b2, zFr_rf _ _ _ _ u1, zq_rf _ _ r1⟩
        have f12 := zFr_tr a3 m5
        obtain ⟨u3, p1, p2, p3⟩ := add_is F (hlt u2) (by rw [f12.2.2.2.2.1]; exact hc2) m3 10 (Or.inl rfl)
        obtain ⟨r3, q1, q2, q3⟩ := emit_is F m4 10
        have f13 := zFr_tr f12 p3
        have g13 := zq_tr (zq_tr b3 m6) q3
        have HT3 : zTree u3 r3 c h := zTree_fr f13 (Or.inl (by omega)) (Or.inl (by omega)) g13 (by decide) (by decide) HT
        have h5 : ∀ z, cP u3 5 z = cP u 5 z := fun z => f13.2.2.1 5 z (by omega)
        have h0 : ∀ z, cJ u3 0 z = cJ u 0 z := fun z => f13.2.1 0 z (by omega)
        obtain ⟨o2, k1, k2⟩ := nextIn_is F hF HT3 d hd (cJ u3 0 y)
        have hQ3 : zQ u3 d (cJ u 0 y).toInt = zQ u d (cJ u 0 y).toInt := by
          funext z
          unfold zQ
          rw [h5, h0]
        rw [h0 y] at k1
        obtain ⟨w5, u4, r4, l1, l2, l3, l4, l5, l6⟩ := ih (zcn (zQ u d (cJ u 0 y).toInt) c) (by omega) u3 r3 (cJ u 0 y) o2 (i + 1) (t + 1) n n2 _ HT3 (by rw [g13.1 42 (by decide)]; exact h42) (zlim_fr f13 g13 (by decide) HL) p2 q2 k1 (by rw [hQ3]) (by omega) (by omega) (by omega) (by omega) (by omega)
        refine ⟨w5, u4, r4, ?_, ?_, l3, l4, zFr_tr f13 l5, zq_tr g13 l6⟩
        · have hly : ∀ w : ZC, cL w = cL u → zlN w y := fun w hw => by
            have := zlN_of HT x2
            unfold zlN at this ⊢
            rw [hw]
            exact this
          rw [cTools_ls_89, e6, if_neg (by rw [zI_le (by omega) (by omega) (by omega) (by omega)]; omega)]
          simp only [Option.elim_some, Option.bind_some, reduceCtorEq, if_false, if_pos (hly u rfl), if_pos (hlt u), a1, if_pos (hly u1 a3.2.2.2.2.2)]
          rw [m1]
          simp only [Option.bind_some, if_pos (hlt u2), p1, if_pos (hly u3 f13.2.2.2.2.2), k2]
          rw [show (i : Int) + 1 = ((i + 1 : Nat) : Int) by omega]
          exact l1
        · obtain ⟨oo, o1, n3, oo2⟩ := rls_loop F (r_ls_77 F n2) HT d hd h42 nm (t : Int) 12 1 F none (by omega) (by omega) (by omega) (Or.inl ⟨rfl, fun y g1 g2 => by omega⟩)
          have hon : oo = some y := zNx_u HT o1 hNx0
          subst hon
          have o2' : r_ls_89 F (r_ls_77 F n2) F r nm (t : Int) (-1) 1 = r_ls_89 F (r_ls_77 F n2) (n3 + 1) r nm (t : Int) (y : Int) 13 := oo2
          rw [r_ls_77, if_neg (by rw [zI_le (by omega) (by omega) (by omega) (by omega)]; omega), o2', r_ls_89, if_pos (by decide), if_neg (show ¬ zI (y : Int) < 0 by rw [zI_lt0 (by omega) (by omega)]; omega), if_pos (show zix (y : Int) 13 from ⟨by omega, by omega, by omega⟩), Int.toNat_natCast, ← e3, b1]
          simp only [Option.bind_some]
          rw [m2]
          simp only [Option.bind_some, q1, zb2_some]
          rw [show (t : Int) + 1 = ((t + 1 : Nat) : Int) by omega]
          exact l2
theorem ls_alike (F : Nat) (hF : 200 ≤ F) {u : ZC} {r : ZR} {c h lev inp : Nat} {ws : List (List Int)} (E : zEv u r c h lev inp ws) (hH : zH u (4 + 4 * lev) []) (hHr : zHr r []) : zDone u r c lev inp (cTools_ls F u (4 + 4 * lev)) (r_ls F r) := by
  have E0 := E
  obtain ⟨hi1, hi2, hi3, hi4⟩ := zEv_inp E
  obtain ⟨HT, HL, ⟨hl, HW, HR, hw1⟩, ⟨hlev, h21⟩, HB, HP, -⟩ := E
  have hw64 := HW.2.1
  have hc12 := HT.1
  have hlt : ∀ u : ZC, zlT u (4 + 4 * lev) := fun u => Or.inl (by omega)
  obtain ⟨hone, ho23, ho1⟩ := zout_ne lev hlev
  have hlast : ∀ (u2 : ZC) (r2 : ZR) (o : Option Nat), zFp u u2 → zq [42, 43, 44] [] r r2 → zPb u2 c → rI r2 42 = zo o → (∀ n, o = some n → n ≤ c) → zDone u r c lev inp (Option.elim o (some (1, u2)) fun (n6 : Nat) => if zlN u2 n6 then (Option.bind (some (cP u2 6 n6)) fun (o7 : Option Nat) => Option.elim o7 (Option.bind (cTree_nextIn F u2 n6 (0 : Int64)) fun (p9 : Option Nat) => cTools_ls_89 F F u2 (4 + 4 * lev) n6 p9 0) fun (n8 : Nat) => if zlT u2 (4 + 4 * lev) then (Option.bind (cText_addPacked F u2 (4 + 4 * lev) (cJ u2 0 n6)) fun (u10 : ZC) => if zlT u10 (4 + 4 * lev) then (Option.bind (cText_add F u10 (4 + 4 * lev) 10) fun (u11 : ZC) => some (0, u11)) else none) else none) else none) (if 0 ≤ zI (rI r2 42) then (if zix (rI r2 42) 13 then (if ¬ zI (rA r2 4 (rI r2 42).toNat) = 0 then r_ls_77 F F r2 (0 : Int64) 0 else Option.bind (r_emitName F r2 (rL r2 6 (rI r2 42).toNat)) fun (u3 : ZR) => Option.bind (r_emit F u3 10) fun (u4 : ZR) => some (0, u4)) else none) else some (1, r2)) := by
    intro u2 r2 o a1 a2 a3 a4 a5
    have HT2 : zTree u2 r2 c h := zTree_fr (a1 7777 7777) (Or.inr rfl) (Or.inr rfl) a2 (by decide) (by decide) HT
    have hH2 : zH u2 (4 + 4 * lev) [] := zFr_H (a1 7777 7777) (by omega) hH
    have hHr2 : zHr r2 [] := zHr_keep a2 (by decide) (by decide) hHr
    have HB2 : zBs u2 r2 := zBs_fr (a1 7777 7777) ⟨by decide, fun b hb => by have := (zbt_in b hb).2.1; omega⟩ ⟨by decide, fun b hb => by have := (zbt_in b hb).2.1; omega⟩ a2 (by decide) HB
    have HL2 : zlim u2 r2 := zlim_fr (a1 7777 7777) a2 (by decide) HL
    have Q2 : zq [35, 36, 38, 39, 42, 43, 44] [33, 34, 37, 40, 41] r r2 := zq_mono a2 (by decide) (by decide)
    cases o with
    | none =>
      rw [a4, show zo none = -1 from rfl, if_neg (by decide)]
      exact ⟨1, [], u2, r2, rfl, rfl, Or.inr (Or.inl rfl), fun _ => rfl, hH2, hHr2, a1 _ _, Q2, HB2, a3⟩
    | some x =>
      have hx := a5 x rfl
      have e42 : rI r2 42 = (x : Int) := a4
      have hlx : zlN u2 x := zlN_of HT2 hx
      rw [e42, if_pos (show 0 ≤ zI (x : Int) by rw [zI_0le (by omega) (by omega)]; omega), if_pos (show zix (x : Int) 13 from ⟨by omega, by omega, by omega⟩), Int.toNat_natCast]
      simp only [Option.elim_some, if_pos hlx, Option.bind_some]
      rcases zdir HT2 x hx with ⟨d1, d2⟩ | ⟨d0, d1, d2⟩
      · rw [d1, d2, if_pos z10]
        simp only [Option.elim_none]
        obtain ⟨o, o1, o2⟩ := nextIn_is F (by omega) HT2 x hx 0
        rw [o2]
        simp only [Option.bind_some]
        have hcl := zcn_le (zQ u2 x (0 : Int64).toInt) c
        obtain ⟨w, u3, r3, k1, k2, k3, k4, k5, k6⟩ := ls_loop F (by omega) x lev hlev hx (zcn (zQ u2 x (0 : Int64).toInt) c) u2 r2 0 o 0 0 F F [] HT2 e42 HL2 hH2 hHr2 o1 rfl (by omega) (by omega) (by omega) (by omega) (by omega)
        exact ⟨0, w, u3, r3, k1, k2, Or.inl rfl, fun hh => absurd rfl hh, k3, k4, zFr_tr (a1 _ _) (zFr_mono k5 (by omega) (by omega) (by omega) (by omega)), zq_tr Q2 (zq_mono k6 (by decide) (by decide)), zBs_fr k5 hone hone k6 (by decide) HB2, zPb_fr k5 a3⟩
      · rw [d1, d2, if_neg (not_not_intro z00)]
        obtain ⟨w, w1, w2, w3, w4⟩ := (HT2.2.2.2.2.2.2.2.2.2.1 x d0 hx).2.2.2.2.1
        have e3 : cJ u2 0 x = rL r2 6 x := (HT2.2.2.2.2.2.2.2.2.2.1 x d0 hx).2.2.1
        have hwl : zlw w := fun z hz => by
          have := w3 z hz
          unfold zNl at this
          omega
        obtain ⟨hc1, hc2, -⟩ := zcap HL2 lev hlev
        obtain ⟨u3, b1, b2, b3⟩ := addPacked_is F (by omega) hwl (hlt u2) hc2 hH2
        obtain ⟨r3, g1, g2, g3⟩ := emitName_is F (by omega) hwl hHr2
        obtain ⟨u4, b4, b5, b6⟩ := add_is F (hlt u3) (by rw [b3.2.2.2.2.1]; exact hc2) b2 10 (Or.inl rfl)
        obtain ⟨r4, g4, g5, g6⟩ := emit_is F g2 10
        rw [← w4] at b1 g1
        rw [← e3, g1]
        simp only [Option.elim_some, if_pos (hlt u2), b1, Option.bind_some, if_pos (hlt u3), b4, g4]
        have k5 := zFr_tr b3 b6
        have k6 := zq_tr g3 g6
        exact ⟨0, _, u4, r4, rfl, rfl, Or.inl rfl, fun hh => absurd rfl hh, b5, g5, zFr_tr (a1 _ _) (zFr_mono k5 (by omega) (by omega) (by omega) (by omega)), zq_tr Q2 (zq_mono k6 (by decide) (by decide)), zBs_fr k5 hone hone k6 (by decide) HB2, zPb_fr k5 a3⟩
  unfold cTools_ls r_ls
  rw [HW.1, HR.1]
  by_cases h2 : ws.length ≤ 2
  · have hcnd : zI (ws.length : Int) ≤ zI 2 := by rw [zI_le (by omega) (by omega) (by omega) (by omega)]; omega
    simp only [if_pos hcnd]
    have e16 : rI (tI r 42 (rI r 9)) 16 = (ws.length : Int) := HR.1
    have q0 : zq [42, 43, 44] [] r (tI r 42 (rI r 9)) := zq_I _ _ r 42 _ (by decide)
    by_cases h1 : ws.length = 1
    · rw [e16, h1, if_neg (not_not_intro (by rfl)), if_pos (by decide)]
      simp only [zb2_some, Option.bind_some]
      exact hlast u (tI r 42 (rI r 9)) (cP u 1 0) (zFp_rf u) q0 HP (by rw [HT.2.2.2.1]; exact HT.2.2.2.2.1) (fun n hn => by rw [HT.2.2.2.1] at hn; rw [← Option.some.inj hn]; exact HT.2.2.2.2.2.1)
    · have e2 : ws.length = 2 := by omega
      have HT1 : zTree u (tI r 42 (rI r 9)) c h := zTree_fr (zFr_rf 7777 7777 0 0 u) (Or.inr rfl) (Or.inr rfl) q0 (by decide) (by decide) HT
      obtain ⟨u2, r2, c1, c2, c3, c4, c5⟩ := follow_alike F (by omega) HT1 hl HW (zWr_fr q0 (by decide) (by decide) HR) 1 (by omega)
      have c1' : cTree_follow F u 1 = some (cP u2 2 0, u2) := c1
      have c2' : r_follow F (tI r 42 (rI r 9)) 1 = some r2 := c2
      rw [e16, e2, if_pos (by decide), if_neg (not_not_intro (by rfl)), c1', c2']
      simp only [zb2_some, Option.bind_some]
      exact hlast u2 r2 (cP u2 2 0) c4 (zq_tr q0 c5) (zPa_b c3) c3.1 c3.2.2.1
  · have hcnd : ¬ zI (ws.length : Int) ≤ zI 2 := by rw [zI_le (by omega) (by omega) (by omega) (by omega)]; omega
    simp only [if_neg hcnd]
    exact zdone_0 E0 hH hHr 2 (Or.inr (Or.inr rfl))
