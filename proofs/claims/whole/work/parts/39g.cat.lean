/-! cat, cd, mkdir -/
theorem zEv_fr {t t2 P : Nat} {u w : ZC} {r s : ZR} {c h lev inp : Nat} {ws : List (List Int)} {S A : List Nat} (E : zEv u r c h lev inp ws) (a : zFr t t2 0 P u w) (ht : (t < 23 ∨ t = 7777) ∧ t ≠ 1) (ht2 : (t2 < 23 ∨ t2 = 7777) ∧ t2 ≠ 1) (b : zq S A r s) (hS : 9 ∉ S ∧ 0 ∉ S ∧ 1 ∉ S ∧ 2 ∉ S ∧ 16 ∉ S ∧ 19 ∉ S ∧ 21 ∉ S) (hA : 3 ∉ A ∧ 4 ∉ A ∧ 5 ∉ A ∧ 6 ∉ A ∧ 7 ∉ A ∧ 8 ∉ A ∧ 17 ∉ A ∧ 18 ∉ A ∧ 20 ∉ A ∧ 24 ∉ A) (HB : zBs w s) (HP : zPb w c) : zEv w s c h lev inp ws := by
  obtain ⟨HT, HL, ⟨hl, HW, HR, hw1⟩, ⟨hlev, h21⟩, -, -, HI⟩ := E
  refine ⟨zTree_fr a ht.1 ht2.1 b hS.1 ⟨hA.1, hA.2.1, hA.2.2.1, hA.2.2.2.1, hA.2.2.2.2.1, hA.2.2.2.2.2.1⟩ HT, zlim_fr a b ⟨hS.2.1, hS.2.2.1, hS.2.2.2.1⟩ HL, ⟨hl, zW_fr a ⟨ht.2, ht2.2⟩ HW, zWr_fr b ⟨hS.2.2.2.2.1, hS.2.2.2.2.2.1⟩ ⟨hA.2.2.2.2.2.2.1, hA.2.2.2.2.2.2.2.1, hA.2.2.2.2.2.2.2.2.1⟩ HR, hw1⟩, ⟨hlev, by rw [b.1 21 hS.2.2.2.2.2.2]; exact h21⟩, HB, HP, ?_⟩
  rw [b.2.2.1 24 lev hA.2.2.2.2.2.2.2.2.2]
  exact HI
theorem zinpcap {u : ZC} {r : ZR} {c h lev inp : Nat} {ws : List (List Int)} (E : zEv u r c h lev inp ws) : cN u inp ≤ 200 := by
  obtain ⟨HT, HL, -, -, -, -, HI⟩ := E
  rcases HI with ⟨hi, -⟩ | ⟨b, hb, hi, -⟩
  · rw [hi, HL.2.2.2.2.1]; omega
  · have hN := HL.2.2.2.2.2 (b / 2) (by omega)
    have h3 := HL.2.2.1
    have h5 := HL.2.1
    rw [hi]
    unfold zbt
    split
    · have := hN.2.2.1
      rw [show 5 + 2 * b = 5 + 4 * (b / 2) by omega]
      omega
    · have := hN.2.2.2
      rw [show 4 + 2 * b = 6 + 4 * (b / 2) by omega]
      omega
theorem remit_src (F : Nat) {v : List Int} (hv : v.length ≤ 160) (K : ZR → Int → Int → Option (Int × ZR)) (v1 v2 : Int) : ∀ (j i n : Nat) (r : ZR) (acc : List Int), i + j = v.length → j < n → zHr r acc → rI r 38 = (v.length : Int) → zRA r 37 0 v → ∃ r2, r_cat_75 F K n r v1 v2 1 (i : Int) = K r2 v1 (v2 + 1) ∧ zHr r2 (acc ++ zsl v i v.length) ∧ zq [35, 36] [34] r r2 := by
  intro j
  induction j with
  | zero =>
    intro i n r acc hi hn hH h38 hR
    obtain ⟨n, rfl⟩ : ∃ n', n = n' + 1 := ⟨n - 1, by omega⟩
    have : zsl v i v.length = [] := List.eq_nil_of_length_eq_zero (by rw [zsl_len v i v.length (Nat.le_refl _)]; omega)
    refine ⟨r, ?_, by rw [this, List.append_nil]; exact hH, zq_rf _ _ r⟩
    rw [r_cat_75, h38, if_pos (by rw [zI_le (by omega) (by omega) (by omega) (by omega)]; omega)]
    rfl
  | succ j ih =>
    intro i n r acc hi hn hH h38 hR
    obtain ⟨n, rfl⟩ : ∃ n', n = n' + 1 := ⟨n - 1, by omega⟩
    have eb := hR i (by omega)
    rw [Nat.zero_add] at eb
    obtain ⟨r1, c1, c2, c3⟩ := emit_is F hH (v.getD i 0)
    rw [r_cat_75, h38, if_neg (by rw [zI_le (by omega) (by omega) (by omega) (by omega)]; omega), if_neg z10]
    simp only [Option.bind_some, reduceCtorEq, if_false, if_pos (show zix (i : Int) 160 from ⟨by omega, by omega, by omega⟩), Int.toNat_natCast, eb, c1]
    rw [show (i : Int) + 1 = ((i + 1 : Nat) : Int) by omega]
    obtain ⟨r2, d1, d2, d3⟩ := ih (i + 1) n r1 (acc ++ [v.getD i 0]) (by omega) (by omega) c2 (by rw [c3.1 38 (by decide)]; exact h38) (fun x hx => by rw [c3.2.2.1 37 _ (by decide)]; exact hR x hx)
    have hs : zsl v i v.length = v.getD i 0 :: zsl v (i + 1) v.length := by
      apply zext
      · rw [List.length_cons, zsl_len v i v.length (Nat.le_refl _), zsl_len v (i + 1) v.length (Nat.le_refl _)]
        omega
      · intro x hx
        rw [zsl_len v i v.length (Nat.le_refl _)] at hx
        rw [zsl_get v i v.length x hx]
        cases x with
        | zero => rfl
        | succ x =>
          show v.getD (i + (x + 1)) 0 = (zsl v (i + 1) v.length).getD x 0
          rw [zsl_get v (i + 1) v.length x (by omega), show i + (x + 1) = i + 1 + x by omega]
    refine ⟨r2, d1, ?_, zq_tr c3 d3⟩
    rw [List.append_assoc] at d2
    rw [hs]
    exact d2
/-- the second loop of cat: the contents -/
theorem cat_loop2 (F : Nat) (hF : 170 ≤ F) (lev : Nat) (hlev : lev < 5) {c h inp : Nat} (ws : List (List Int)) : ∀ (j k n n2 : Nat) (u : ZC) (r : ZR) (acc : List Int), k + j = ws.length → 1 ≤ k → j < n → j < n2 → zEv u r c h lev inp ws → zH u (4 + 4 * lev) acc → zHr r acc →
    ∃ (w : List Int) (u2 : ZC) (r2 : ZR), cTools_cat_64 F n u (4 + 4 * lev) (k : Int) = some (0, u2) ∧ r_cat_61 F n2 r (ws.length : Int) (k : Int) = some (0, r2) ∧ zH u2 (4 + 4 * lev) w ∧ zHr r2 w ∧ zFr (4 + 4 * lev) (4 + 4 * lev) 0 1 u u2 ∧ zq [35, 36, 38, 39, 42, 43, 44] [34, 37, 40, 41] r r2 ∧ zBs u2 r2 ∧ zPb u2 c := by
  have hlt : ∀ u : ZC, zlT u (4 + 4 * lev) := fun u => Or.inl (by omega)
  obtain ⟨hone, ho23, ho1⟩ := zout_ne lev hlev
  intro j
  induction j with
  | zero =>
    intro k n n2 u r acc hk hk1 hn hn2 E hH hHr
    obtain ⟨n, rfl⟩ : ∃ n', n = n' + 1 := ⟨n - 1, by omega⟩
    obtain ⟨n2, rfl⟩ : ∃ n', n2 = n' + 1 := ⟨n2 - 1, by omega⟩
    have HW := E.2.2.1.2.1
    have hw64 := HW.2.1
    refine ⟨acc, u, r, ?_, ?_, hH, hHr, zFr_rf _ _ _ _ u, zq_rf _ _ r, E.2.2.2.2.1, E.2.2.2.2.2.1⟩
    · rw [cTools_cat_64, HW.1, if_pos (by rw [zI_le (by omega) (by omega) (by omega) (by omega)]; omega)]
    · rw [r_cat_61, if_pos (by rw [zI_le (by omega) (by omega) (by omega) (by omega)]; omega)]
  | succ j ih =>
    intro k n n2 u r acc hk hk1 hn hn2 E hH hHr
    obtain ⟨n, rfl⟩ : ∃ n', n = n' + 1 := ⟨n - 1, by omega⟩
    obtain ⟨n2, rfl⟩ : ∃ n', n2 = n' + 1 := ⟨n2 - 1, by omega⟩
    have HW := E.2.2.1.2.1
    have hw64 := HW.2.1
    obtain ⟨p, u2, r2, g1, g2, g3, g4, g5⟩ := src_word F hF E k (by omega)
    rcases g5 with ⟨k1, k2⟩ | ⟨t, v, k1, k2, k3, k4, k5, k6, k7⟩
    · have hH2 : zH u2 (4 + 4 * lev) acc := zFr_H (g2 7777 7777) (by omega) hH
      have hHr2 : zHr r2 acc := zHr_keep g3 (by decide) (by decide) hHr
      have HB2 : zBs u2 r2 := zBs_fr (g2 7777 7777) ⟨by decide, fun b hb => by have := (zbt_in b hb).2.1; omega⟩ ⟨by decide, fun b hb => by have := (zbt_in b hb).2.1; omega⟩ g3 (by decide) E.2.2.2.2.1
      have Q2 : zq [35, 36, 38, 39, 42, 43, 44] [34, 37, 40, 41] r r2 := zq_mono g3 (by decide) (by decide)
      have E2 : zEv u2 r2 c h lev inp ws := zEv_fr E (g2 7777 7777) ⟨Or.inr rfl, by decide⟩ ⟨Or.inr rfl, by decide⟩ Q2 (by decide) (by decide) HB2 g4
      obtain ⟨w, u4, r4, m1, m2, m3, m4, m5, m6, m7, m8⟩ := ih (k + 1) n n2 u2 r2 acc (by omega) (by omega) (by omega) (by omega) E2 hH2 hHr2
      refine ⟨w, u4, r4, ?_, ?_, m3, m4, zFr_tr (g2 _ _) m5, zq_tr Q2 m6, m7, m8⟩
      · rw [cTools_cat_64, HW.1, if_neg (by rw [zI_le (by omega) (by omega) (by omega) (by omega)]; omega), g1]
        simp only [zb2_some, k1, Option.bind_some, Option.elim_none]
        rw [show (k : Int) + 1 = ((k + 1 : Nat) : Int) by omega]
        exact m1
      · rw [r_cat_61, if_neg (by rw [zI_le (by omega) (by omega) (by omega) (by omega)]; omega), k2]
        simp only [zb2_some]
        obtain ⟨F', hF'⟩ : ∃ F', F = F' + 1 := ⟨F - 1, by omega⟩
        have hst : ∀ (FF : Nat) (K : ZR → Int → Int → Option (Int × ZR)), r_cat_75 F K (FF + 1) r2 (ws.length : Int) (k : Int) 0 0 = K r2 (ws.length : Int) ((k : Int) + 1) := by
          intro FF K
          rw [r_cat_75]
          have : (if zI (rI r2 38) ≤ zI 0 then some true else if zI 0 = 0 then some true else some false) = some true := by
            split
            · rfl
            · rw [if_pos z00]
          rw [this]
          rfl
        have hst' : r_cat_75 F (r_cat_61 F n2) F r2 (ws.length : Int) (k : Int) 0 0 = r_cat_61 F n2 r2 (ws.length : Int) ((k : Int) + 1) := by
          have := hst F' (r_cat_61 F n2)
          rw [← hF'] at this
          exact this
        rw [hst', show (k : Int) + 1 = ((k + 1 : Nat) : Int) by omega]
        exact m2
    · have hH2 : zH u2 (4 + 4 * lev) acc := zFr_H (g2 7777 7777) (by omega) hH
      have hHr2 : zHr r2 acc := zHr_keep g3 (by decide) (by decide) hHr
      have HL2 : zlim u2 r2 := zlim_fr (g2 7777 7777) g3 (by decide) E.2.1
      obtain ⟨hc1, hc2, -⟩ := zcap HL2 lev hlev
      obtain ⟨x, u3, b1, b2, b3, -⟩ := addAll_is F (hlt u2) k6 hc2 (by omega) (by omega) hH2 k3
      obtain ⟨r3, d1, d2, d3⟩ := remit_src F k4.2.1 (r_cat_61 F n2) (ws.length : Int) (k : Int) v.length 0 F r2 acc (by omega) (by have := k4.2.1; omega) hHr2 k4.1 k4.2.2.2.1
      rw [zsl_all] at d2
      have d1' : r_cat_75 F (r_cat_61 F n2) F r2 (ws.length : Int) (k : Int) 1 0 = r_cat_61 F n2 r3 (ws.length : Int) ((k : Int) + 1) := d1
      have HB2 : zBs u2 r2 := zBs_fr (g2 7777 7777) ⟨by decide, fun b hb => by have := (zbt_in b hb).2.1; omega⟩ ⟨by decide, fun b hb => by have := (zbt_in b hb).2.1; omega⟩ g3 (by decide) E.2.2.2.2.1
      have HB3 : zBs u3 r3 := zBs_fr b3 hone hone d3 (by decide) HB2
      have F3 : zFr (4 + 4 * lev) (4 + 4 * lev) 0 1 u u3 := zFr_tr (g2 _ _) (zFr_mono b3 (by omega) (by omega) (by omega) (by omega))
      have Q3 : zq [35, 36, 38, 39, 42, 43, 44] [34, 37, 40, 41] r r3 := zq_tr (zq_mono g3 (by decide) (by decide)) (zq_mono d3 (by decide) (by decide))
      have E3 : zEv u3 r3 c h lev inp ws := zEv_fr E F3 ⟨Or.inl ho23, ho1⟩ ⟨Or.inl ho23, ho1⟩ Q3 (by decide) (by decide) HB3 (zPb_fr b3 g4)
      obtain ⟨w, u4, r4, m1, m2, m3, m4, m5, m6, m7, m8⟩ := ih (k + 1) n n2 u3 r3 (acc ++ v) (by omega) (by omega) (by omega) (by omega) E3 b2 d2
      refine ⟨w, u4, r4, ?_, ?_, m3, m4, zFr_tr F3 m5, zq_tr Q3 m6, m7, m8⟩
      · rw [cTools_cat_64, HW.1, if_neg (by rw [zI_le (by omega) (by omega) (by omega) (by omega)]; omega), g1]
        simp only [zb2_some, k1, Option.bind_some, Option.elim_some, if_pos (hlt u2), b1]
        rw [show (k : Int) + 1 = ((k + 1 : Nat) : Int) by omega]
        exact m1
      · rw [r_cat_61, if_neg (by rw [zI_le (by omega) (by omega) (by omega) (by omega)]; omega), k2]
        simp only [zb2_some]
        rw [d1', show (k : Int) + 1 = ((k + 1 : Nat) : Int) by omega]
        exact m2
/-- the first loop of cat: all paths are tried -/
theorem cat_loop1 (F : Nat) (hF : 170 ≤ F) (lev : Nat) (hlev : lev < 5) {c h inp : Nat} (ws : List (List Int)) (h2 : 2 ≤ ws.length) : ∀ (j k n n2 : Nat) (u : ZC) (r : ZR), k + j = ws.length → 1 ≤ k → j < n → j < n2 → zEv u r c h lev inp ws → zH u (4 + 4 * lev) [] → zHr r [] →
    ∃ (st : Int) (w : List Int) (u2 : ZC) (r2 : ZR), cTools_cat_25 F n u (4 + 4 * lev) (k : Int) = some (st, u2) ∧ r_cat_2 F n2 r (k : Int) = some (st, r2) ∧ (st = 0 ∨ st = 1 ∨ st = 2) ∧ (st ≠ 0 → w = []) ∧ zH u2 (4 + 4 * lev) w ∧ zHr r2 w ∧ zFr (4 + 4 * lev) (4 + 4 * lev) 0 1 u u2 ∧ zq [35, 36, 38, 39, 42, 43, 44] [34, 37, 40, 41] r r2 ∧ zBs u2 r2 ∧ zPb u2 c := by
  obtain ⟨hone, ho23, ho1⟩ := zout_ne lev hlev
  intro j
  induction j with
  | zero =>
    intro k n n2 u r hk hk1 hn hn2 E hH hHr
    obtain ⟨n, rfl⟩ : ∃ n', n = n' + 1 := ⟨n - 1, by omega⟩
    obtain ⟨n2, rfl⟩ : ∃ n', n2 = n' + 1 := ⟨n2 - 1, by omega⟩
    have HW := E.2.2.1.2.1
    have HR := E.2.2.1.2.2.1
    have hw64 := HW.2.1
    obtain ⟨w, u4, r4, m1, m2, m3, m4, m5, m6, m7, m8⟩ := cat_loop2 F hF lev hlev ws (ws.length - 1) 1 F F u r [] (by omega) (Nat.le_refl _) (by omega) (by omega) E hH hHr
    refine ⟨0, w, u4, r4, ?_, ?_, Or.inl rfl, fun hh => absurd rfl hh, m3, m4, m5, m6, m7, m8⟩
    · rw [cTools_cat_25, HW.1, if_pos (by rw [zI_le (by omega) (by omega) (by omega) (by omega)]; omega)]
      exact m1
    · rw [r_cat_2, HR.1, if_pos (by rw [zI_le (by omega) (by omega) (by omega) (by omega)]; omega), if_pos (by rw [zI_eq (by omega) (by omega) (by omega) (by omega)]; omega)]
      exact m2
  | succ j ih =>
    intro k n n2 u r hk hk1 hn hn2 E hH hHr
    obtain ⟨n, rfl⟩ : ∃ n', n = n' + 1 := ⟨n - 1, by omega⟩
    obtain ⟨n2, rfl⟩ : ∃ n', n2 = n' + 1 := ⟨n2 - 1, by omega⟩
    have HW := E.2.2.1.2.1
    have HR := E.2.2.1.2.2.1
    have hw64 := HW.2.1
    obtain ⟨u2, r2, c1, c2, c3, c4, c5⟩ := follow_alike F (by omega) E.1 E.2.2.1.1 HW HR k (by omega)
    have hc12 := E.1.1
    have HT2 : zTree u2 r2 c h := zTree_fr (c4 7777 7777) (Or.inr rfl) (Or.inr rfl) c5 (by decide) (by decide) E.1
    have hH2 : zH u2 (4 + 4 * lev) [] := zFr_H (c4 7777 7777) (by omega) hH
    have hHr2 : zHr r2 [] := zHr_keep c5 (by decide) (by decide) hHr
    have HB2 : zBs u2 r2 := zBs_fr (c4 7777 7777) ⟨by decide, fun b hb => by have := (zbt_in b hb).2.1; omega⟩ ⟨by decide, fun b hb => by have := (zbt_in b hb).2.1; omega⟩ c5 (by decide) E.2.2.2.2.1
    have Q2 : zq [35, 36, 38, 39, 42, 43, 44] [34, 37, 40, 41] r r2 := zq_mono c5 (by decide) (by decide)
    have E2 : zEv u2 r2 c h lev inp ws := zEv_fr E (c4 7777 7777) ⟨Or.inr rfl, by decide⟩ ⟨Or.inr rfl, by decide⟩ Q2 (by decide) (by decide) HB2 (zPa_b c3)
    rw [cTools_cat_25, HW.1, if_neg (by rw [zI_le (by omega) (by omega) (by omega) (by omega)]; omega), c1, r_cat_2, HR.1, if_neg (by rw [zI_le (by omega) (by omega) (by omega) (by omega)]; omega), c2]
    simp only [zb2_some, Option.bind_some]
    have hfail : (if zI (rI r2 42) < 0 then some true else if zix (rI r2 42) 13 then (if zI (rA r2 4 (rI r2 42).toNat) = 0 then some false else some true) else none) = some true → cTools_contentOf F u2 (cP u2 2 0) = some none → ∃ (st : Int) (w : List Int) (u2' : ZC) (r2' : ZR), (Option.bind (cTools_contentOf F u2 (cP u2 2 0)) fun (p6 : Option Nat) => Option.elim p6 (some ((1 : Int), u2)) fun (n7 : Nat) => cTools_cat_25 F n u2 (4 + 4 * lev) ((k : Int) + 1)) = some (st, u2') ∧ (Option.bind (if zI (rI r2 42) < 0 then some true else if zix (rI r2 42) 13 then (if zI (rA r2 4 (rI r2 42).toNat) = 0 then some false else some true) else none) fun (b3 : Bool) => if b3 = true then some ((1 : Int), r2) else r_cat_2 F n2 r2 ((k : Int) + 1)) = some (st, r2') ∧ (st = 0 ∨ st = 1 ∨ st = 2) ∧ (st ≠ 0 → w = []) ∧ zH u2' (4 + 4 * lev) w ∧ zHr r2' w ∧ zFr (4 + 4 * lev) (4 + 4 * lev) 0 1 u u2' ∧ zq [35, 36, 38, 39, 42, 43, 44] [34, 37, 40, 41] r r2' ∧ zBs u2' r2' ∧ zPb u2' c := by
      intro hx hco
      rw [hx, hco]
      exact ⟨1, [], u2, r2, rfl, rfl, Or.inr (Or.inl rfl), fun _ => rfl, hH2, hHr2, c4 _ _, Q2, HB2, zPa_b c3⟩
    cases ho : cP u2 2 0 with
    | none =>
      rw [ho] at hfail
      refine hfail ?_ rfl
      rw [c3.1, ho]
      rfl
    | some x =>
      rw [ho] at hfail
      have hx := c3.2.2.1 x ho
      have e42 : rI r2 42 = (x : Int) := by rw [c3.1, ho]; rfl
      have hlx : zlN u2 x := zlN_of HT2 hx
      have hz : zix (x : Int) 13 := ⟨by omega, by omega, by omega⟩
      have hco : cTools_contentOf F u2 (some x) = some (cP u2 6 x) := by
        unfold cTools_contentOf
        simp only [Option.elim_some, if_pos hlx, Option.bind_some]
      rcases zdir HT2 x hx with ⟨d1, d2⟩ | ⟨d0, d1, d2⟩
      · refine hfail ?_ (by rw [hco, d1])
        rw [e42, if_neg (by rw [zI_lt0 (by omega) (by omega)]; omega), if_pos hz, Int.toNat_natCast, d2, if_neg z10]
      · obtain ⟨st, w, u4, r4, m1, m2, m3, m4, m5, m6, m7, m8, m9⟩ := ih (k + 1) n n2 u2 r2 (by omega) (by omega) (by omega) (by omega) E2 hH2 hHr2
        rw [hco, d1, e42, if_neg (by rw [zI_lt0 (by omega) (by omega)]; omega), if_pos hz, Int.toNat_natCast, d2, if_pos z00]
        simp only [Option.bind_some, Option.elim_some, reduceCtorEq, if_false]
        rw [show (k : Int) + 1 = ((k + 1 : Nat) : Int) by omega]
        exact ⟨st, w, u4, r4, m1, m2, m3, m4, m5, m6, zFr_tr (c4 _ _) m7, zq_tr Q2 m8, m9⟩
theorem cat_alike (F : Nat) (hF : 170 ≤ F) {u : ZC} {r : ZR} {c h lev inp : Nat} {ws : List (List Int)} (E : zEv u r c h lev inp ws) (hH : zH u (4 + 4 * lev) []) (hHr : zHr r []) : zDone u r c lev inp (cTools_cat F u inp (4 + 4 * lev)) (r_cat F r) := by
  have E0 := E
  obtain ⟨hi1, hi2, hi3, hi4⟩ := zEv_inp E
  have hcapi := zinpcap E
  obtain ⟨HT, HL, ⟨hl, HW, HR, hw1⟩, ⟨hlev, h21⟩, HB, HP, -⟩ := E
  have hw64 := HW.2.1
  obtain ⟨hone, ho23, ho1⟩ := zout_ne lev hlev
  have hlt : ∀ u : ZC, zlT u (4 + 4 * lev) := fun u => Or.inl (by omega)
  obtain ⟨hc1, hc2, -⟩ := zcap HL lev hlev
  by_cases h1 : ws.length = 1
  · obtain ⟨v, r2, g1, g2, g3, g4, g5⟩ := src_in F hF E0 1 (by omega) (by omega)
    have g1' : r_reads F r 1 = some (1, r2) := g1
    have hHr2 : zHr r2 [] := zHr_keep g4 (by decide) (by decide) hHr
    obtain ⟨x, u3, b1, b2, b3, -⟩ := addAll_is F (hlt u) (show zlT u inp from Or.inl hi2) hc2 hcapi hi1 hH g2
    obtain ⟨u4, d1, d2, d3⟩ := clear_is F (u := u3) (t := inp) (Or.inl hi2)
    obtain ⟨F', hF'⟩ : ∃ F', F = F' + 2 := ⟨F - 2, by omega⟩
    have hK : ∀ r : ZR, r_cat_61 F (F' + 1) r 2 2 = some (0, r) := by
      intro r
      rw [r_cat_61, if_pos (by decide)]
    obtain ⟨r3, f1, f2, f3⟩ := remit_src F g3.2.1 (r_cat_61 F (F' + 1)) 2 1 v.length 0 F r2 [] (by omega) (by have := g3.2.1; omega) hHr2 g3.1 g3.2.2.2.1
    rw [zsl_all, List.nil_append] at f2
    have f1' : r_cat_75 F (r_cat_61 F (F' + 1)) F r2 2 1 1 0 = r_cat_61 F (F' + 1) r3 2 2 := f1
    have hF2 : zFr (4 + 4 * lev) inp 0 1 u u4 := zFr_tr (zFr_mono b3 (by omega) (by omega) (by omega) (by omega)) (zFr_mono d3 (by omega) (by omega) (by omega) (by omega))
    have hQ : zq [35, 36, 38, 39, 42, 43, 44] [33, 34, 37, 40, 41] r r3 := zq_tr (zq_mono g4 (by decide) (by decide)) (zq_mono f3 (by decide) (by decide))
    refine ⟨0, v, u4, r3, ?_, ?_, Or.inl rfl, fun hh => absurd rfl hh, zFr_H d3 (by omega) b2, f2, hF2, hQ, zBs_clear HB hF2 hone (d2.2.1 (Nat.zero_le _)).2 hQ (by decide) (fun b hb => by rw [f3.2.2.1 33 b (by decide)]; exact g5 b hb), zPb_fr d3 (zPb_fr b3 HP)⟩
    · unfold cTools_cat
      rw [HW.1, h1, if_neg (not_not_intro (by rfl)), if_pos (hlt u), b1]
      simp only [zb2_some, if_pos (show zlT u3 inp from Or.inl hi2), d1, Option.bind_some]
    · unfold r_cat
      have : r_cat_2 F F r 1 = some (0, r3) := by
        rw [hF', r_cat_2, ← hF', HR.1, h1, if_pos (by decide), if_neg (not_not_intro (by rfl))]
        simp only [Option.bind_some]
        have h61 : r_cat_61 F F r 2 1 = some (0, r3) := by
          conv => lhs; arg 2; rw [hF']
          rw [r_cat_61, if_neg (by decide), g1']
          simp only [zb2_some]
          rw [f1', hK]
        exact h61
      exact this
  · obtain ⟨st, w, u4, r4, m1, m2, m3, m4, m5, m6, m7, m8, m9, m10⟩ := cat_loop1 F hF lev hlev ws (by omega) (ws.length - 1) 1 F F u r (by omega) (Nat.le_refl _) (by omega) (by omega) E0 hH hHr
    refine ⟨st, w, u4, r4, ?_, m2, m3, m4, m5, m6, zFr_mono m7 (by omega) (by omega) (by omega) (by omega), zq_mono m8 (by decide) (by decide), m9, m10⟩
    unfold cTools_cat
    rw [HW.1, if_pos (by rw [zI_eq (by omega) (by omega) (by omega) (by omega)]; omega)]
    exact m1
