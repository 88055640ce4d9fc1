/-! cd, mkdir; what any tool leaves behind -/
def zKt (out inp : Nat) (u w : ZC) : Prop :=
  (∀ f o, ¬ ((f = 0 ∨ f = 1) ∧ (o = out ∨ o = inp ∨ 24 ≤ o)) → ¬ (f = 6 ∧ o = 0) → cI w f o = cI u f o) ∧ (∀ k, cP w 4 k = cP u 4 k) ∧
  (∀ f o i, ¬ (f = 0 ∧ (o = out ∨ o = inp ∨ 24 ≤ o)) → cA w f o i = cA u f o i) ∧ (∀ t, t < 24 → cN w t = cN u t) ∧ ∃ x, cL w = cL u ++ x
theorem zKt_fr {t t2 P out inp : Nat} {u w : ZC} (a : zFr t t2 0 P u w) (h1 : t = out ∨ t = inp) (h2 : t2 = out ∨ t2 = inp) : zKt out inp u w :=
  ⟨fun f o g1 g2 => a.1 f o (by omega) (by omega), fun k => a.2.2.1 4 k (by omega), fun f o i g => a.2.2.2.1 f o i (by omega) (by omega), fun t _ => by rw [a.2.2.2.2.1], [], by rw [a.2.2.2.2.2, List.append_nil]⟩
theorem zKt_tr {out inp : Nat} {u v w : ZC} (a : zKt out inp u v) (b : zKt out inp v w) : zKt out inp u w := by
  obtain ⟨a1, a2, a3, a4, x, a5⟩ := a
  obtain ⟨b1, b2, b3, b4, y, b5⟩ := b
  exact ⟨fun f o g1 g2 => (b1 f o g1 g2).trans (a1 f o g1 g2), fun k => (b2 k).trans (a2 k), fun f o i g => (b3 f o i g).trans (a3 f o i g), fun t ht => (b4 t ht).trans (a4 t ht), x ++ y, by rw [b5, a5, List.append_assoc]⟩
theorem zKt_mk {c out inp : Nat} {u w : ZC} (a : zMk c u w) : zKt out inp u w :=
  ⟨fun f o g1 g2 => a.1 f o (by omega) g2, fun k => a.2.2.1 4 k (by omega) (by omega), fun f o i g => a.2.2.2.1 f o i (by omega), fun t ht => a.2.2.2.2.1 t (by omega), a.2.2.2.2.2⟩
/-- what any tool leaves behind -/
def zTl (u : ZC) (r : ZR) (c lev inp : Nat) (x : Option (Int × ZC)) (y : Option (Int × ZR)) : Prop :=
  ∃ (st st2 : Int) (w : List Int) (u2 : ZC) (r2 : ZR) (c2 h2 : Nat), x = some (st, u2) ∧ y = some (st2, r2) ∧ ((st2 = st ∧ (st = 0 ∨ st = 1 ∨ st = 2 ∨ st = 127)) ∨ (st = 100 ∧ st2 = -9)) ∧ (st ≠ 0 → w = []) ∧ zH u2 (4 + 4 * lev) w ∧ zHr r2 w ∧ zTree u2 r2 c2 h2 ∧ c ≤ c2 ∧ (c2 : Int) ≤ cI u2 4 0 ∧ zKt (4 + 4 * lev) inp u u2 ∧ zq [9, 35, 36, 38, 39, 42, 43, 44] [3, 4, 5, 6, 7, 33, 34, 37, 40, 41] r r2 ∧ zsum r2 0 13 = zsum r 0 13 ∧ zBs u2 r2 ∧ zPb u2 c2 ∧ ∀ x, x ≤ c → cP u2 6 x = cP u 6 x
theorem zsum_eq {r s : ZR} (h3 : ∀ i, rA s 3 i = rA r 3 i) (h7 : ∀ i, rA s 7 i = rA r 7 i) : ∀ (j k : Nat), zsum s k j = zsum r k j := by
  intro j
  induction j with
  | zero => intro k; rfl
  | succ j ih =>
    intro k
    simp only [zsum, ih, h3, h7]
theorem zDone_tl {u : ZC} {r : ZR} {c h lev inp : Nat} {ws : List (List Int)} {x : Option (Int × ZC)} {y : Option (Int × ZR)} (E : zEv u r c h lev inp ws) (hc : (c : Int) ≤ cI u 4 0) (H : zDone u r c lev inp x y) : zTl u r c lev inp x y := by
  obtain ⟨st, w, u2, r2, h1, h2, h3, h4, h5, h6, h7, h8, h9, h10⟩ := H
  obtain ⟨hi1, hi2, hi3, hi4⟩ := zEv_inp E
  have hlev := E.2.2.2.1.1
  refine ⟨st, st, w, u2, r2, c, h, h1, h2, Or.inl ⟨rfl, by omega⟩, h4, h5, h6, zTree_fr h7 (Or.inl (by omega)) (Or.inl hi2) h8 (by decide) (by decide) E.1, Nat.le_refl _, by rw [h7.1 4 0 (by omega) (by omega)]; exact hc, zKt_fr h7 (Or.inl rfl) (Or.inr rfl), zq_mono h8 (by decide) (by decide), zsum_eq (fun i => h8.2.2.1 3 i (by decide)) (fun i => h8.2.2.1 7 i (by decide)) 13 0, h9, h10, fun x _ => h7.2.2.1 6 x (by omega)⟩
theorem zTree_cd {u : ZC} {r : ZR} {c h x : Nat} (H : zTree u r c h) (hx : x ≤ c) (hd : cP u 6 x = none) : zTree (sP u 1 0 (some x)) (tI r 9 (x : Int)) c x := by
  obtain ⟨t1, t2, t3, t4, t5, t6, t7, t8, t9, t10, t11, t12, t13, t14⟩ := H
  exact ⟨t1, t2, t3, rfl, rfl, hx, hd, t8, t9, t10, t11, t12, t13, t14⟩
theorem cd_alike (F : Nat) (hF : 170 ≤ F) {u : ZC} {r : ZR} {c h lev inp : Nat} {ws : List (List Int)} (E : zEv u r c h lev inp ws) (hc : (c : Int) ≤ cI u 4 0) (hH : zH u (4 + 4 * lev) []) (hHr : zHr r []) : zTl u r c lev inp (cTools_cd F u) (r_cd F r) := by
  have E0 := E
  obtain ⟨hi1, hi2, hi3, hi4⟩ := zEv_inp E
  obtain ⟨HT, HL, ⟨hl, HW, HR, hw1⟩, ⟨hlev, h21⟩, HB, HP, -⟩ := E
  have hw64 := HW.2.1
  have hc12 := HT.1
  obtain ⟨hone, ho23, ho1⟩ := zout_ne lev hlev
  -- the last step of both
  have hlast : ∀ (u2 : ZC) (r2 : ZR) (o : Option Nat), zFp u u2 → zq [42, 43, 44] [] r r2 → zPb u2 c → rI r2 42 = zo o → (∀ n, o = some n → n ≤ c) → zTl u r c lev inp (Option.bind (Option.elim o (some true) fun (n5 : Nat) => if zlN u2 n5 then (Option.bind (some (cP u2 6 n5)) fun (o6 : Option Nat) => Option.elim o6 (some false) fun (n7 : Nat) => some true) else none) fun (b8 : Bool) => if b8 = true then some (1, u2) else some (0, sP u2 1 0 o)) (Option.bind (if zI (rI r2 42) < 0 then some true else if zix (rI r2 42) 13 then (if ¬ zI (rA r2 4 (rI r2 42).toNat) = 0 then some false else some true) else none) fun (b3 : Bool) => if b3 = true then some (1, r2) else some (0, tI r2 9 (rI r2 42))) := by
    intro u2 r2 o a1 a2 a3 a4 a5
    have HT2 : zTree u2 r2 c h := zTree_fr (a1 7777 7777) (Or.inr rfl) (Or.inr rfl) a2 (by decide) (by decide) HT
    have hH2 : zH u2 (4 + 4 * lev) [] := zFr_H (a1 7777 7777) (by omega) hH
    have hHr2 : zHr r2 [] := zHr_keep a2 (by decide) (by decide) hHr
    have HB2 : zBs u2 r2 := zBs_fr (a1 7777 7777) ⟨by decide, fun b hb => by have := (zbt_in b hb).2.1; omega⟩ ⟨by decide, fun b hb => by have := (zbt_in b hb).2.1; omega⟩ a2 (by decide) HB
    have hfail : ∀ X Y, X = some ((1 : Int), u2) → Y = some ((1 : Int), r2) → zTl u r c lev inp X Y := by
      intro X Y e1 e2
      exact ⟨1, 1, [], u2, r2, c, h, e1, e2, Or.inl ⟨rfl, by omega⟩, fun _ => rfl, hH2, hHr2, HT2, Nat.le_refl _, by rw [(a1 7777 7777).1 4 0 (by omega) (by omega)]; exact hc, zKt_fr (a1 (4 + 4 * lev) inp) (Or.inl rfl) (Or.inr rfl), zq_mono a2 (by decide) (by decide), zsum_eq (fun i => a2.2.2.1 3 i (by decide)) (fun i => a2.2.2.1 7 i (by decide)) 13 0, HB2, a3, fun x _ => (a1 7777 7777).2.2.1 6 x (by omega)⟩
    cases o with
    | none =>
      apply hfail
      · rfl
      · rw [a4]; rfl
    | some x =>
      have hx := a5 x rfl
      have e42 : rI r2 42 = (x : Int) := a4
      have hlx : zlN u2 x := zlN_of HT2 hx
      have hz : zix (x : Int) 13 := ⟨by omega, by omega, by omega⟩
      simp only [Option.elim_some, if_pos hlx, Option.bind_some, e42, if_pos hz, Int.toNat_natCast]
      rw [if_neg (show ¬ zI (x : Int) < 0 by rw [zI_lt0 (by omega) (by omega)]; omega)]
      rcases zdir HT2 x hx with ⟨d1, d2⟩ | ⟨d0, d1, d2⟩
      · rw [d1, d2, if_pos z10]
        simp only [Option.elim_none, Option.bind_some, reduceCtorEq, if_false]
        refine ⟨0, 0, [], _, _, c, x, rfl, rfl, Or.inl ⟨rfl, Or.inl rfl⟩, fun _ => rfl, ?_, hHr2, zTree_cd HT2 hx d1, Nat.le_refl _, ?_, zKt_tr (zKt_fr (a1 (4 + 4 * lev) inp) (Or.inl rfl) (Or.inr rfl)) ⟨fun _ _ _ _ => rfl, fun _ => rfl, fun _ _ _ _ => rfl, fun _ _ => rfl, [], by rw [List.append_nil]; rfl⟩, zq_tr (zq_mono a2 (by decide) (by decide)) (zq_I _ _ r2 9 _ (by decide)), ?_, ?_, ?_, fun x _ => (a1 7777 7777).2.2.1 6 x (by omega)⟩
        · exact hH2
        · show (c : Int) ≤ cI u2 4 0
          rw [(a1 7777 7777).1 4 0 (by omega) (by omega)]
          exact hc
        · exact zsum_eq (fun i => a2.2.2.1 3 i (by decide)) (fun i => a2.2.2.1 7 i (by decide)) 13 0
        · exact HB2
        · exact a3
      · rw [d1, d2, if_neg (not_not_intro z00)]
        exact hfail _ _ rfl rfl
  unfold cTools_cd r_cd
  rw [HW.1, HR.1]
  by_cases h2 : ws.length ≤ 2
  · have hcnd : zI (ws.length : Int) ≤ zI 2 := by rw [zI_le (by omega) (by omega) (by omega) (by omega)]; omega
    simp only [if_pos hcnd]
    have e16 : rI (tI r 42 0) 16 = (ws.length : Int) := HR.1
    have q0 : zq [42, 43, 44] [] r (tI r 42 0) := zq_I _ _ r 42 0 (by decide)
    by_cases h1 : ws.length = 1
    · rw [e16, h1, if_neg (not_not_intro (by rfl)), if_pos (by decide)]
      simp only [zb2_some, Option.bind_some]
      exact hlast u (tI r 42 0) (some 0) (zFp_rf u) q0 HP rfl (fun n hn => by rw [← Option.some.inj hn]; exact Nat.zero_le _)
    · have e2 : ws.length = 2 := by omega
      have HT1 : zTree u (tI r 42 0) c h := zTree_fr (zFr_rf 7777 7777 0 0 u) (Or.inr rfl) (Or.inr rfl) q0 (by decide) (by decide) HT
      obtain ⟨u2, r2, c1, c2, c3, c4, c5⟩ := follow_alike F (by omega) HT1 hl HW (zWr_fr q0 (by decide) (by decide) HR) 1 (by omega)
      have c1' : cTree_follow F u 1 = some (cP u2 2 0, u2) := c1
      have c2' : r_follow F (tI r 42 0) 1 = some r2 := c2
      rw [e16, e2, if_pos (by decide), if_neg (not_not_intro (by rfl)), c1', c2']
      simp only [zb2_some, Option.bind_some]
      exact hlast u2 r2 (cP u2 2 0) c4 (zq_tr q0 c5) (zPa_b c3) c3.1 c3.2.2.1
  · have hcnd : ¬ zI (ws.length : Int) ≤ zI 2 := by rw [zI_le (by omega) (by omega) (by omega) (by omega)]; omega
    simp only [if_neg hcnd]
    exact zDone_tl E0 hc (zdone_0 E0 hH hHr 2 (Or.inr (Or.inr rfl)))
theorem zBs_mk {u w : ZC} {r s : ZR} {c : Nat} {S A : List Nat} (a : zMk c u w) (b : zq S A r s) (hA : 32 ∉ A ∧ 33 ∉ A) (H : zBs u r) : zBs w s := by
  refine ⟨zT_keep (a.1 0 2 (by omega) (by omega)) (a.2.2.2.2.1 2 (by omega)) (fun i => a.2.2.2.1 0 2 i (by omega)) H.1, fun x hx => ?_⟩
  obtain ⟨v, g1, g2, g3, g4⟩ := H.2 x hx
  have := (zbt_in x hx).2.1
  exact ⟨v, zT_keep (a.1 0 (zbt x) (by omega) (by omega)) (a.2.2.2.2.1 (zbt x) (by omega)) (fun i => a.2.2.2.1 0 (zbt x) i (by omega)) g1, g2, by rw [b.2.2.1 33 x hA.2]; exact g3, fun i hi => by rw [b.2.2.1 32 _ hA.1]; exact g4 i hi⟩
/-- making, on both sides -/
theorem make_alike (F : Nat) (hF : 20 ≤ F) {u : ZC} {r : ZR} {c h : Nat} (HT : zTree u r c h) (HL : zlim u r) (hc : (c : Int) ≤ cI u 4 0) (HG : zTg u c) (HP : zPa u r c) (d : Nat) (h3 : cP u 3 0 = some d) (fl : Bool) :
    ((c : Int) = cI u 4 0 ∧ cTree_make F u (zB fl) = some (none, u) ∧ r_made F r (zB (!fl)) = some (-1, r)) ∨ ((c : Int) < cI u 4 0 ∧ ∃ w s, cTree_make F u (zB fl) = some (some (c + 1), w) ∧ r_made F r (zB (!fl)) = some ((c : Int) + 1, s) ∧ zTree w s (c + 1) h ∧ zNew u w fl c d (cJ u 1 0) (cI u 5 0).toNat ∧ zMk c u w ∧ zq [] [3, 4, 5, 6, 7] r s ∧ zsum s 0 13 = zsum r 0 13 ∧ rA s 7 (c + 1) = 0 ∧ rA s 4 (c + 1) = zB (!fl) ∧ (∀ n, n ≠ c + 1 → rA s 7 n = rA r 7 n)) := by
  obtain ⟨⟨p1, p2⟩, p3, p4, p5, p6⟩ := HP.2.2.2 d h3
  have HL0 := HL
  obtain ⟨l1, l2, -⟩ := HL
  have hv : zB (!fl) = 0 ∨ zB (!fl) = 1 := by cases fl <;> simp [zB]
  have hr := rmade_is F hF HT (zB (!fl)) hv l1.2.2 ⟨l1.1, l1.2.1⟩
  have e43 : rI r 43 = (d : Int) := by rw [HP.2.1, h3]; rfl
  rcases cmake_is F HT HL0 hc HG d HP.2.2.1 h3 p1 fl with ⟨a1, a2⟩ | ⟨a1, w, a2, a3⟩
  · rw [if_neg (by omega)] at hr
    exact Or.inl ⟨by omega, a2, hr⟩
  · rw [if_pos a1, e43, p3] at hr
    refine Or.inr ⟨a1, w, _, a2, hr, zNew_tree HT a3 (by omega) p1 p2 p4 (by omega) l2.1 p6, a3, zNew_Mk a3, ?_, zsum_new HT (by omega) _ _ _ 13 0 (by omega), ?_, ?_, fun n hn => ?_⟩
    · exact zq_tr (zq_tr (zq_tr (zq_tr (zq_A _ _ r 3 _ _ (by decide)) (zq_A _ _ _ 4 _ _ (by decide))) (zq_A _ _ _ 5 _ _ (by decide))) (zq_L _ _ _ 6 _ _ (by decide))) (zq_A _ _ _ 7 _ _ (by decide))
    · show (if 7 = 7 ∧ c + 1 = c + 1 then (0 : Int) else _) = 0
      rw [if_pos ⟨rfl, rfl⟩]
    · show (if 4 = 7 ∧ c + 1 = c + 1 then (0 : Int) else if 4 = 5 ∧ c + 1 = c + 1 then (d : Int) else if 4 = 4 ∧ c + 1 = c + 1 then zB (!fl) else _) = _
      rw [if_neg (by omega), if_neg (by omega), if_pos ⟨rfl, rfl⟩]
    · show (if 7 = 7 ∧ n = c + 1 then (0 : Int) else if 7 = 5 ∧ n = c + 1 then (d : Int) else if 7 = 4 ∧ n = c + 1 then zB (!fl) else if 7 = 3 ∧ n = c + 1 then 1 else rA r 7 n) = _
      rw [if_neg (by omega), if_neg (by omega), if_neg (by omega), if_neg (by omega)]
theorem mkdir_alike (F : Nat) (hF : 170 ≤ F) {u : ZC} {r : ZR} {c h lev inp : Nat} {ws : List (List Int)} (E : zEv u r c h lev inp ws) (HG : zTg u c) (hc : (c : Int) ≤ cI u 4 0) (hH : zH u (4 + 4 * lev) []) (hHr : zHr r []) : zTl u r c lev inp (cTools_mkdir F u) (r_mkdir F r) := by
  have E0 := E
  obtain ⟨hi1, hi2, hi3, hi4⟩ := zEv_inp E
  obtain ⟨HT, HL, ⟨hl, HW, HR, hw1⟩, ⟨hlev, h21⟩, HB, HP, -⟩ := E
  have hw64 := HW.2.1
  have hc12 := HT.1
  obtain ⟨hone, ho23, ho1⟩ := zout_ne lev hlev
  unfold cTools_mkdir r_mkdir
  rw [HW.1, HR.1]
  by_cases h2 : ws.length = 2
  · obtain ⟨u2, r2, c1, c2, c3, c4, c5⟩ := follow_alike F (by omega) HT hl HW HR 1 (by omega)
    have c1' : cTree_follow F u 1 = some (cP u2 2 0, u2) := c1
    have c2' : r_follow F r 1 = some r2 := c2
    have HT2 : zTree u2 r2 c h := zTree_fr (c4 7777 7777) (Or.inr rfl) (Or.inr rfl) c5 (by decide) (by decide) HT
    have hH2 : zH u2 (4 + 4 * lev) [] := zFr_H (c4 7777 7777) (by omega) hH
    have hHr2 : zHr r2 [] := zHr_keep c5 (by decide) (by decide) hHr
    have HB2 : zBs u2 r2 := zBs_fr (c4 7777 7777) ⟨by decide, fun b hb => by have := (zbt_in b hb).2.1; omega⟩ ⟨by decide, fun b hb => by have := (zbt_in b hb).2.1; omega⟩ c5 (by decide) HB
    have e40 : cI u2 4 0 = cI u 4 0 := (c4 7777 7777).1 4 0 (by omega) (by omega)
    have hcnd : zI (ws.length : Int) = zI 2 := by rw [h2]; rfl
    simp only [if_pos hcnd, c1', c2', zb2_some, Option.bind_some]
    have Q2 : zq [9, 35, 36, 38, 39, 42, 43, 44] [3, 4, 5, 6, 7, 33, 34, 37, 40, 41] r r2 := zq_mono c5 (by decide) (by decide)
    have Z2 : zsum r2 0 13 = zsum r 0 13 := zsum_eq (fun i => c5.2.2.1 3 i (by decide)) (fun i => c5.2.2.1 7 i (by decide)) 13 0
    have K2 : zKt (4 + 4 * lev) inp u u2 := zKt_fr (c4 (4 + 4 * lev) inp) (Or.inl rfl) (Or.inr rfl)
    cases ho : cP u2 3 0 with
    | none =>
      have e43 : rI r2 43 = -1 := by rw [c3.2.1, ho]; rfl
      rw [e43, if_neg (by decide)]
      exact ⟨1, 1, [], u2, r2, c, h, rfl, rfl, Or.inl ⟨rfl, by omega⟩, fun _ => rfl, hH2, hHr2, HT2, Nat.le_refl _, by rw [e40]; exact hc, K2, Q2, Z2, HB2, zPa_b c3, fun x _ => (c4 7777 7777).2.2.1 6 x (by omega)⟩
    | some d =>
      have hd := (c3.2.2.2 d ho).1.1
      have e43 : rI r2 43 = (d : Int) := by rw [c3.2.1, ho]; rfl
      rw [e43, if_pos (by rw [zI_0le (by omega) (by omega)]; omega)]
      simp only [Option.elim_some]
      have HL2 : zlim u2 r2 := zlim_fr (c4 7777 7777) c5 (by decide) HL
      have HG2 : zTg u2 c := fun k hk t ht => HG k hk t (by rw [← (c4 7777 7777).2.2.1 4 k (by omega)]; exact ht)
      rcases make_alike F (by omega) HT2 HL2 (by rw [e40]; exact hc) HG2 c3 d ho false with ⟨a1, a2, a3⟩ | ⟨a1, w, s, a2, a3, a4, a5, a6, a7, a8, a9⟩
      · have a2' : cTree_make F u2 0 = some (none, u2) := a2
        have a3' : r_made F r2 1 = some (-1, r2) := a3
        rw [a2', a3']
        simp only [zb2_some, Option.elim_none, Option.bind_some]
        rw [if_neg (by decide)]
        exact ⟨100, -9, [], u2, r2, c, h, rfl, rfl, Or.inr ⟨rfl, rfl⟩, fun _ => rfl, hH2, hHr2, HT2, Nat.le_refl _, by rw [e40]; exact hc, K2, Q2, Z2, HB2, zPa_b c3, fun x _ => (c4 7777 7777).2.2.1 6 x (by omega)⟩
      · have a2' : cTree_make F u2 0 = some (some (c + 1), w) := a2
        have a3' : r_made F r2 1 = some ((c : Int) + 1, s) := a3
        rw [a2', a3']
        simp only [zb2_some, Option.elim_some, Option.bind_some]
        rw [if_pos (by rw [zI_0le (by omega) (by omega)]; omega)]
        have hP2 : ∀ f, f = 2 ∨ f = 3 → cP w f 0 = cP u2 f 0 := fun f hf => a6.2.2.1 f 0 (by omega) (by omega)
        refine ⟨0, 0, [], w, s, c + 1, h, rfl, rfl, Or.inl ⟨rfl, Or.inl rfl⟩, fun _ => rfl, zH_keep (a6.1 0 _ (by omega) (by omega)) (a6.1 1 _ (by omega) (by omega)) (a6.2.2.2.2.1 _ (by omega)) (fun i => a6.2.2.2.1 0 _ i (by omega)) hH2, zHr_keep a7 (by decide) (by decide) hHr2, a4, by omega, by rw [a6.1 4 0 (by omega) (by omega)]; omega, zKt_tr K2 (zKt_mk a6), zq_tr Q2 (zq_mono a7 (by decide) (by decide)), a8.trans Z2, zBs_mk a6 a7 (by decide) HB2, ⟨?_, ?_⟩, fun x hx => by rw [a6.2.2.1 6 x (by omega) (by omega)]; exact (c4 7777 7777).2.2.1 6 x (by omega)⟩
        · intro n hn
          rw [hP2 2 (Or.inl rfl)] at hn
          have := c3.2.2.1 n hn
          omega
        · intro n hn
          rw [hP2 3 (Or.inr rfl)] at hn
          have := (c3.2.2.2 n hn).1.1
          omega
  · have hcnd : ¬ zI (ws.length : Int) = zI 2 := by rw [zI_eq (by omega) (by omega) (by omega) (by omega)]; omega
    simp only [if_neg hcnd]
    exact zDone_tl E0 hc (zdone_0 E0 hH hHr 2 (Or.inr (Or.inr rfl)))
