/-! grep on both sides -/
theorem rpat_is (F : Nat) {r : ZR} {ws : List (List Int)} (hl : zwl ws) (HR : zWr r ws) (k : Nat) (hk : k < ws.length) (hk2 : k < 65) (nt : Int) :
    (if zix (k : Int) 65 then (
    Option.bind ((
        Option.bind ((
            if zI (rA r 18 (k : Int).toNat) ≤ zI (rA r 17 (k : Int).toNat) then
              some true
            else
            if zix (rA r 17 (k : Int).toNat) 200 then (
            if ¬ zI (rA r 20 (rA r 17 (k : Int).toNat).toNat) = zI 94 then
              some true
            else
            some false) else none) : Option (Bool)) fun (b8 : Bool) =>
        if b8 = true then
          some (0)
        else
        some (1)) : Option (Int)) fun (x9 : Int) =>
    Option.bind ((
        if zI x9 = 0 then
          some (rA r 17 (k : Int).toNat)
        else
        some ((rA r 17 (k : Int).toNat) + 1)) : Option (Int)) fun (x10 : Int) =>
    Option.bind ((
        Option.bind ((
            if zI (rA r 18 (k : Int).toNat) ≤ zI x10 then
              some true
            else
            if zix ((rA r 18 (k : Int).toNat) - 1) 200 then (
            if ¬ zI (rA r 20 ((rA r 18 (k : Int).toNat) - 1).toNat) = zI 36 then
              some true
            else
            some false) else none) : Option (Bool)) fun (b11 : Bool) =>
        if b11 = true then
          some (0)
        else
        some (1)) : Option (Int)) fun (x12 : Int) =>
    Option.bind ((
        if zI x12 = 0 then
          some (rA r 18 (k : Int).toNat)
        else
        some ((rA r 18 (k : Int).toNat) - 1)) : Option (Int)) fun (x13 : Int) =>
    r_grep_169 F F r nt x10 x13 x9 x12 0 0) else none) = r_grep_169 F F r nt ((zpt ws.flatten (zst ws k) (zst ws (k + 1))).1 : Int) ((zpt ws.flatten (zst ws k) (zst ws (k + 1))).2.1 : Int) (zB (zpt ws.flatten (zst ws k) (zst ws (k + 1))).2.2.1) (zB (zpt ws.flatten (zst ws k) (zst ws (k + 1))).2.2.2) 0 0 := by
  have hL := zwl_flat hl
  obtain ⟨m1, m2, -⟩ := zst_mono ws k hk
  obtain ⟨i1, i2, i3⟩ := zpt_in ws.flatten (zst ws k) (zst ws (k + 1)) m1
  obtain ⟨w1, w2, w3, w4, w5⟩ := HR
  rw [if_pos (show zix (k : Int) 65 from ⟨by omega, by omega, by omega⟩)]
  simp only [Int.toNat_natCast, (w5 k hk).1, (w5 k hk).2]
  generalize zst ws k = p1 at *
  generalize zst ws (k + 1) = p2 at *
  generalize ws.flatten = fl at *
  have hb3 : (Option.bind (if zI (p2 : Int) ≤ zI (p1 : Int) then some true else if zix (p1 : Int) 200 then (if ¬ zI (rA r 20 p1) = zI 94 then some true else some false) else none) fun (b3 : Bool) => if b3 = true then some (0 : Int) else some 1) = some (zB (zpt fl p1 p2).2.2.1) := by
    show _ = some (zB (decide (p1 < p2 ∧ fl.getD p1 0 = 94)))
    by_cases h1 : p1 < p2
    · have hx := zlw_get hL p1 (by omega)
      have e := w4 p1 (by omega)
      rw [Nat.zero_add] at e
      rw [if_neg (by rw [zI_le (by omega) (by omega) (by omega) (by omega)]; omega), if_pos (show zix (p1 : Int) 200 from ⟨by omega, by omega, by omega⟩), e]
      by_cases h94 : fl.getD p1 0 = 94
      · rw [h94, decide_eq_true ⟨h1, rfl⟩]
        rfl
      · rw [if_pos (by rw [zI_eq (by omega) (by omega) (by omega) (by omega)]; exact h94), decide_eq_false (fun hh => h94 hh.2)]
        rfl
    · rw [if_pos (by rw [zI_le (by omega) (by omega) (by omega) (by omega)]; omega), decide_eq_false (fun hh => h1 hh.1)]
      rfl
  rw [hb3]
  simp only [Option.bind_some]
  have e1 : (if zI (zB (zpt fl p1 p2).2.2.1) = 0 then some (p1 : Int) else some ((p1 : Int) + 1)) = some ((zpt fl p1 p2).1 : Int) := by
    show (if zI (zB (decide (p1 < p2 ∧ fl.getD p1 0 = 94))) = 0 then some (p1 : Int) else some ((p1 : Int) + 1)) = some ((if decide (p1 < p2 ∧ fl.getD p1 0 = 94) = true then p1 + 1 else p1 : Nat) : Int)
    cases decide (p1 < p2 ∧ fl.getD p1 0 = 94)
    · rfl
    · rfl
  rw [e1]
  simp only [Option.bind_some]
  have hb6 : (Option.bind (if zI (p2 : Int) ≤ zI ((zpt fl p1 p2).1 : Int) then some true else if zix ((p2 : Int) - 1) 200 then (if ¬ zI (rA r 20 ((p2 : Int) - 1).toNat) = zI 36 then some true else some false) else none) fun (b6 : Bool) => if b6 = true then some (0 : Int) else some 1) = some (zB (zpt fl p1 p2).2.2.2) := by
    show _ = some (zB (decide ((zpt fl p1 p2).1 < p2 ∧ fl.getD (p2 - 1) 0 = 36)))
    by_cases h1 : (zpt fl p1 p2).1 < p2
    · have hx := zlw_get hL (p2 - 1) (by omega)
      have e := w4 (p2 - 1) (by omega)
      rw [Nat.zero_add] at e
      rw [if_neg (by rw [zI_le (by omega) (by omega) (by omega) (by omega)]; omega), if_pos (show zix ((p2 : Int) - 1) 200 from ⟨by omega, by omega, by omega⟩), show ((p2 : Int) - 1).toNat = p2 - 1 by omega, e]
      by_cases h36 : fl.getD (p2 - 1) 0 = 36
      · rw [h36, decide_eq_true ⟨h1, rfl⟩]
        rfl
      · rw [if_pos (by rw [zI_eq (by omega) (by omega) (by omega) (by omega)]; exact h36), decide_eq_false (fun hh => h36 hh.2)]
        rfl
    · rw [if_pos (by rw [zI_le (by omega) (by omega) (by omega) (by omega)]; omega), decide_eq_false (fun hh => h1 hh.1)]
      rfl
  rw [hb6]
  simp only [Option.bind_some]
  have e2 : (if zI (zB (zpt fl p1 p2).2.2.2) = 0 then some (p2 : Int) else some ((p2 : Int) - 1)) = some ((zpt fl p1 p2).2.1 : Int) := by
    have hpos : (zpt fl p1 p2).2.2.2 = true → 1 ≤ p2 := by
      intro hh
      have : decide ((zpt fl p1 p2).1 < p2 ∧ fl.getD (p2 - 1) 0 = 36) = true := hh
      have := of_decide_eq_true this
      omega
    have hdef : (zpt fl p1 p2).2.1 = if (zpt fl p1 p2).2.2.2 = true then p2 - 1 else p2 := rfl
    rw [hdef]
    cases hh : (zpt fl p1 p2).2.2.2
    · rfl
    · have := hpos hh
      rw [zB_t, if_neg z10]
      simp only [if_true]
      congr 1
      omega
  rw [e2]
  rfl
theorem grep_alike (F : Nat) (hF : 200 ≤ F) {u : ZC} {r : ZR} {c h lev inp : Nat} {ws : List (List Int)} (E : zEv u r c h lev inp ws) (hH : zH u (4 + 4 * lev) []) (hHr : zHr r []) : zDone u r c lev inp (cTools_grep F u inp (4 + 4 * lev)) (r_grep F r) := by
  have E0 := E
  obtain ⟨hi1, hi2, hi3, hi4⟩ := zEv_inp E
  have hcapi := zinpcap E
  obtain ⟨HT, HL, ⟨hl, HW, HR, hw1⟩, ⟨hlev, h21⟩, HB, HP, -⟩ := E
  have hw64 := HW.2.1
  obtain ⟨hone, ho23, ho1⟩ := zout_ne lev hlev
  have hh := has_is F (by omega) hl HW 1 (by omega) 1 (by omega)
  have hh' : cWords_has F u 1 1 = some (if 1 < ws.length ∧ ws.getD 1 [] = zstr.getD 1 [] then 1 else 0) := hh
  obtain ⟨ot, hb⟩ : ∃ ot : Bool, ot = decide (1 < ws.length ∧ ws.getD 1 [] = zstr.getD 1 []) := ⟨_, rfl⟩
  have e1 : (if 1 < ws.length ∧ ws.getD 1 [] = zstr.getD 1 [] then (1 : Int) else 0) = zB ot := by
    rw [hb]
    by_cases hx : 1 < ws.length ∧ ws.getD 1 [] = zstr.getD 1 []
    · rw [if_pos hx, decide_eq_true hx]; rfl
    · rw [if_neg hx, decide_eq_false hx]; rfl
  have e2 : (Option.bind (if zI (rI r 16) ≤ zI 1 then some true else Option.bind (r_wordAs F r 1) fun (p1 : Int64) => if ¬ p1 = (12796116324057088 : Int64) then some true else some false) fun (b2 : Bool) => if b2 = true then some (0 : Int) else some 1) = some (zB ot) := by
    rw [HR.1, hb]
    by_cases h1 : 1 < ws.length
    · have hwa := wordAs_is F (by omega) hl HR 1 h1 (by omega)
      have hwa' : r_wordAs F r 1 = some (zPk (ws.getD 1 [])) := hwa
      rw [if_neg (by rw [zI_le (by omega) (by omega) (by omega) (by omega)]; omega), hwa']
      simp only [Option.bind_some, h1, true_and]
      rw [← zlit.2.1]
      by_cases hx : ws.getD 1 [] = zstr.getD 1 []
      · rw [if_neg (not_not_intro ((zE_lit (zwl_get hl 1) 1 (by omega)).2 hx)), decide_eq_true hx]
        rfl
      · rw [if_pos (fun e => hx ((zE_lit (zwl_get hl 1) 1 (by omega)).1 e)), decide_eq_false hx]
        rfl
    · rw [if_pos (by rw [zI_le (by omega) (by omega) (by omega) (by omega)]; omega), decide_eq_false (fun hh => h1 hh.1)]
      rfl
  obtain ⟨pt, hpt, hpt2⟩ : ∃ pt : Nat, (if zI (zB ot) = 0 then some (1 : Int) else some 2) = some (pt : Int) ∧ 1 ≤ pt ∧ pt ≤ 2 := by
    cases ot
    · exact ⟨1, rfl, by omega, by omega⟩
    · exact ⟨2, rfl, by omega, by omega⟩
  unfold cTools_grep r_grep
  rw [hh', e1, e2, HW.1, HR.1]
  simp only [Option.bind_some]
  rw [hpt]
  simp only [Option.bind_some]
  have hcond : (if zI (ws.length : Int) ≤ zI (pt : Int) then some true else if zI (ws.length : Int) ≤ zI ((pt : Int) + 2) then some false else some true) = some (decide (ws.length ≤ pt ∨ pt + 2 < ws.length)) := by
    by_cases q1 : ws.length ≤ pt
    · rw [if_pos (by rw [zI_le (by omega) (by omega) (by omega) (by omega)]; omega), decide_eq_true (Or.inl q1)]
    · rw [if_neg (by rw [zI_le (by omega) (by omega) (by omega) (by omega)]; omega)]
      by_cases q2 : pt + 2 < ws.length
      · rw [if_neg (by rw [zI_le (by omega) (by omega) (by omega) (by omega)]; omega), decide_eq_true (Or.inr q2)]
      · rw [if_pos (by rw [zI_le (by omega) (by omega) (by omega) (by omega)]; omega), decide_eq_false (by omega)]
  rw [hcond]
  simp only [Option.bind_some]
  by_cases hbad : ws.length ≤ pt ∨ pt + 2 < ws.length
  · simp only [decide_eq_true hbad, if_true]
    exact zdone_0 E0 hH hHr 2 (Or.inr (Or.inr rfl))
  · simp only [decide_eq_false hbad, reduceCtorEq, if_false]
    rw [show (pt : Int) + 1 = ((pt + 1 : Nat) : Int) by omega]
    by_cases h1 : ws.length = pt + 1
    · -- from the input
      obtain ⟨v, r2, g1, g2, g3, g4, g5⟩ := src_in F (by omega) E0 (pt + 1) (by omega) (by omega)
      have hHr2 : zHr r2 [] := zHr_keep g4 (by decide) (by decide) hHr
      have HL2 : zlim u r2 := zlim_fr (zFr_rf 7777 7777 0 0 u) g4 (by decide) HL
      have HR2 := zWr_fr g4 (by decide) (by decide) HR
      obtain ⟨st, w, u3, r3, k1, k2, k3, k4, k5, k6, k7, -, k8⟩ := grep_loop F hF hl pt (by omega) g3.2.1 g3.2.2.1 lev inp inp hlev ⟨hi1, hi3⟩ hi1 hi2 true ot (v.length + 1) 0 F F u r2 [] 0 [] 0 (by omega) (Nat.le_refl _) (by have := g3.2.1; omega) (by have := g3.2.1; omega) (Nat.le_refl _) (Nat.le_refl _) HL2 HW HR2 (Or.inl hi2) hcapi g2 g3 rfl hH hHr2 (fun _ => rfl)
      obtain ⟨k8, k9⟩ := k8 rfl
      have k1' : cTools_grep_116 F F u inp (4 + 4 * lev) (zB ot) (pt : Int) 1 inp 1 0 0 = some (st, u3) := k1
      have hF2 : zFr (4 + 4 * lev) inp 0 1 u u3 := zFr_mono k8 (by omega) (by omega) (by omega) (by omega)
      have hQ : zq [35, 36, 38, 39, 42, 43, 44] [33, 34, 37, 40, 41] r r3 := zq_tr (zq_mono g4 (by decide) (by decide)) (zq_mono k7 (by decide) (by decide))
      have hc2 : zI (ws.length : Int) = zI ((pt + 1 : Nat) : Int) := by rw [h1]
      rw [if_neg (not_not_intro hc2), g1]
      simp only [Option.bind_some, zb2_some, z10, if_false, not_false_iff, if_true, Option.elim_some]
      refine ⟨st, w, u3, r3, k1', ?_, by omega, k4, k5, k6, hF2, hQ, zBs_clear HB hF2 hone k9 hQ (by decide) (fun b hb => by rw [k7.2.2.1 33 b (by decide)]; exact g5 b hb), zPb_fr k8 HP⟩
      exact (rpat_is F hl HR2 pt (by omega) (by omega) (zB ot)).trans k2
    · -- from a file
      obtain ⟨p, u2, r2, g1, g2, g3, g4, g5⟩ := src_word F (by omega) E0 (pt + 1) (by omega)
      have hne : ¬ zI (ws.length : Int) = zI ((pt + 1 : Nat) : Int) := by rw [zI_eq (by omega) (by omega) (by omega) (by omega)]; omega
      have hF2 : zFr (4 + 4 * lev) inp 0 1 u u2 := g2 _ _
      have hQ2 : zq [35, 36, 38, 39, 42, 43, 44] [33, 34, 37, 40, 41] r r2 := zq_mono g3 (by decide) (by decide)
      have hH2 : zH u2 (4 + 4 * lev) [] := zFr_H (g2 7777 7777) (by omega) hH
      have hHr2 : zHr r2 [] := zHr_keep g3 (by decide) (by decide) hHr
      have HB2 : zBs u2 r2 := zBs_fr (g2 7777 7777) ⟨by decide, fun b hb => by have := (zbt_in b hb).2.1; omega⟩ ⟨by decide, fun b hb => by have := (zbt_in b hb).2.1; omega⟩ g3 (by decide) HB
      rw [if_pos hne]
      simp only [Option.bind_some, if_pos z00, g1, zb2_some]
      rcases g5 with ⟨k1, k2⟩ | ⟨t, v, k1, k2, k3, k4, k5, k6, k7⟩
      · rw [k1, k2]
        simp only [Option.bind_some, zb2_some, Option.elim_none, z00, not_true, if_false]
        exact ⟨1, [], u2, r2, rfl, rfl, Or.inr (Or.inl rfl), fun _ => rfl, hH2, hHr2, hF2, hQ2, HB2, g4⟩
      · have HL2 : zlim u2 r2 := zlim_fr (g2 7777 7777) g3 (by decide) HL
        have HR2 := zWr_fr g3 (by decide) (by decide) HR
        have HW2 : zW u2 ws := zW_fr (g2 7777 7777) (by omega) HW
        obtain ⟨st, w, u3, r3, m1, m2, m3, m4, m5, m6, m7, m8, -⟩ := grep_loop F hF hl pt (by omega) k4.2.1 k4.2.2.1 lev t inp hlev ⟨by omega, by omega⟩ hi1 hi2 false ot (v.length + 1) 0 F F u2 r2 [] 0 [] 0 (by omega) (Nat.le_refl _) (by have := k4.2.1; omega) (by have := k4.2.1; omega) (Nat.le_refl _) (Nat.le_refl _) HL2 HW2 HR2 k6 (by omega) k3 k4 rfl hH2 hHr2 (fun _ => rfl)
        have m8 := m8 rfl
        have m1' : cTools_grep_116 F F u2 inp (4 + 4 * lev) (zB ot) (pt : Int) 0 t 1 0 0 = some (st, u3) := m1
        rw [k1, k2]
        simp only [Option.bind_some, zb2_some, Option.elim_some, z10, not_false_iff, if_true]
        refine ⟨st, w, u3, r3, m1', ?_, by omega, m4, m5, m6, zFr_tr hF2 (zFr_mono m8 (by omega) (by omega) (by omega) (by omega)), zq_tr hQ2 (zq_mono m7 (by decide) (by decide)), zBs_fr m8 hone hone m7 (by decide) HB2, zPb_fr m8 g4⟩
        exact (rpat_is F hl HR2 pt (by omega) (by omega) (zB ot)).trans m2
