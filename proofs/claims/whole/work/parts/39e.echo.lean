/-! echo -/
def zbt (b : Nat) : Nat := if b % 2 = 0 then 5 + 2 * b else 4 + 2 * b
theorem zbt_in (b : Nat) (h : b < 10) : 5 ≤ zbt b ∧ zbt b ≤ 22 ∧ (∀ k, zbt b ≠ 4 + 4 * k ∧ zbt b ≠ 3 + 4 * k) := by
  unfold zbt
  split <;> refine ⟨by omega, by omega, fun k => by omega⟩
theorem zbt_inj (a b : Nat) (h : zbt a = zbt b) : a = b := by
  unfold zbt at h
  split at h <;> split at h <;> omega
/-- the rows that commands read from -/
def zBs (u : ZC) (r : ZR) : Prop := zT u 2 [] ∧ ∀ b : Nat, b < 10 → ∃ v, zT u (zbt b) v ∧ v.length ≤ 160 ∧ rA r 33 b = (v.length : Int) ∧ zRA r 32 (160 * b) v
def zPb (u : ZC) (c : Nat) : Prop := (∀ n, cP u 2 0 = some n → n ≤ c) ∧ ∀ d, cP u 3 0 = some d → d ≤ c
theorem zBs_fr {t t2 W P : Nat} {u w : ZC} {r s : ZR} {S A : List Nat} (a : zFr t t2 W P u w) (ht : t ≠ 2 ∧ ∀ b, b < 10 → t ≠ zbt b) (ht2 : t2 ≠ 2 ∧ ∀ b, b < 10 → t2 ≠ zbt b) (b : zq S A r s) (hA : 32 ∉ A ∧ 33 ∉ A) (H : zBs u r) : zBs w s := by
  refine ⟨zFr_T a ⟨fun e => ht.1 e.symm, fun e => ht2.1 e.symm, fun _ => by decide⟩ H.1, fun x hx => ?_⟩
  obtain ⟨v, g1, g2, g3, g4⟩ := H.2 x hx
  refine ⟨v, zFr_T a ⟨fun e => ht.2 x hx e.symm, fun e => ht2.2 x hx e.symm, fun _ => by have := (zbt_in x hx).1; omega⟩ g1, g2, by rw [b.2.2.1 33 x hA.2]; exact g3, fun i hi => by rw [b.2.2.1 32 _ hA.1]; exact g4 i hi⟩
/-- what a tool stands in: the level's number, its input and output -/
def zEv (u : ZC) (r : ZR) (c h lev inp : Nat) (ws : List (List Int)) : Prop :=
  zTree u r c h ∧ zlim u r ∧ (zwl ws ∧ zW u ws ∧ zWr r ws ∧ 1 ≤ ws.length) ∧ (lev < 5 ∧ rI r 21 = (lev : Int)) ∧ zBs u r ∧ zPb u c ∧ ((inp = 2 ∧ rA r 24 lev = -1) ∨ ∃ b : Nat, b < 10 ∧ inp = zbt b ∧ rA r 24 lev = (b : Int))
theorem zW_fr {t t2 P : Nat} {u w : ZC} {ws : List (List Int)} (a : zFr t t2 0 P u w) (ht : t ≠ 1 ∧ t2 ≠ 1) (H : zW u ws) : zW w ws := by
  obtain ⟨h1, h2, h3, h4, h5⟩ := H
  refine ⟨by rw [a.1 10 0 (by omega) (by omega)]; exact h1, h2, by rw [a.2.2.2.2.1]; exact h3, ⟨h4.1, zFr_H a (by omega) h4.2⟩, fun k hk => by rw [a.2.2.2.1 4 0 k (by omega) (by omega)]; exact h5 k hk⟩
theorem zWr_fr {S A : List Nat} {r s : ZR} {ws : List (List Int)} (a : zq S A r s) (hS : 16 ∉ S ∧ 19 ∉ S) (hA : 17 ∉ A ∧ 18 ∉ A ∧ 20 ∉ A) (H : zWr r ws) : zWr s ws := by
  obtain ⟨h1, h2, h3, h4, h5⟩ := H
  refine ⟨by rw [a.1 16 hS.1]; exact h1, by rw [a.1 19 hS.2]; exact h2, h3, fun i hi => by rw [a.2.2.1 20 _ hA.2.2]; exact h4 i hi, fun k hk => by rw [a.2.2.1 17 _ hA.1, a.2.2.1 18 _ hA.2.1]; exact h5 k hk⟩
theorem zlim_fr {t t2 W P : Nat} {u w : ZC} {r s : ZR} {S A : List Nat} (a : zFr t t2 W P u w) (b : zq S A r s) (hS : 0 ∉ S ∧ 1 ∉ S ∧ 2 ∉ S) (H : zlim u r) : zlim w s := by
  unfold zlim at H ⊢
  rw [a.1 4 0 (by omega) (by omega), a.1 5 0 (by omega) (by omega), a.2.2.2.2.1, b.1 0 hS.1, b.1 1 hS.2.1, b.1 2 hS.2.2]
  exact H
theorem zcap {u : ZC} {r : ZR} (H : zlim u r) (lev : Nat) (h : lev < 5) : (cN u (4 + 4 * lev) : Int) = rI r 2 ∧ cN u (4 + 4 * lev) ≤ 200 ∧ (8 ≤ rI r 2 ∧ rI r 2 ≤ 96) := by
  obtain ⟨-, -, h3, -, -, h4⟩ := H
  have := (h4 lev h).2.1
  exact ⟨this, by omega, h3⟩
theorem remit_word (F : Nat) {fl : List Int} (hfl : fl.length ≤ 96) (K : ZR → Int → Int → Int → Option (Int × ZR)) (k e : Nat) (hk : k < 65) (he : e ≤ fl.length) (v1 v2 : Int) : ∀ (j i n : Nat) (r : ZR) (acc : List Int), i + j = e → j < n → zHr r acc → zRA r 20 0 fl → rA r 18 k = (e : Int) → ∃ r2, r_echo_65 F K n r v1 v2 (k : Int) (i : Int) = K r2 v1 v2 ((k : Int) + 1) ∧ zHr r2 (acc ++ zsl fl i e) ∧ zq [35, 36] [34] r r2 := by
  have hz : zix (k : Int) 65 := ⟨by omega, by omega, by omega⟩
  intro j
  induction j with
  | zero =>
    intro i n r acc hi hn hH hR h18
    obtain ⟨n, rfl⟩ : ∃ n', n = n' + 1 := ⟨n - 1, by omega⟩
    have : zsl fl i e = [] := List.eq_nil_of_length_eq_zero (by rw [zsl_len fl i e he]; omega)
    refine ⟨r, ?_, by rw [this, List.append_nil]; exact hH, zq_rf _ _ r⟩
    rw [r_echo_65, if_pos hz, Int.toNat_natCast, h18, if_pos (by rw [zI_le (by omega) (by omega) (by omega) (by omega)]; omega)]
  | succ j ih =>
    intro i n r acc hi hn hH hR h18
    obtain ⟨n, rfl⟩ : ∃ n', n = n' + 1 := ⟨n - 1, by omega⟩
    have eb := hR i (by omega)
    rw [Nat.zero_add] at eb
    obtain ⟨r1, c1, c2, c3⟩ := emit_is F hH (fl.getD i 0)
    rw [r_echo_65, if_pos hz, Int.toNat_natCast, h18, if_neg (by rw [zI_le (by omega) (by omega) (by omega) (by omega)]; omega), if_pos (show zix (i : Int) 200 from ⟨by omega, by omega, by omega⟩), Int.toNat_natCast, eb, c1]
    simp only [Option.bind_some]
    rw [show (i : Int) + 1 = ((i + 1 : Nat) : Int) by omega]
    obtain ⟨r2, d1, d2, d3⟩ := ih (i + 1) n r1 (acc ++ [fl.getD i 0]) (by omega) (by omega) c2 (fun x hx => by rw [c3.2.2.1 20 _ (by decide)]; exact hR x hx) (by rw [c3.2.2.1 18 _ (by decide)]; exact h18)
    have hs : zsl fl i e = fl.getD i 0 :: zsl fl (i + 1) e := by
      apply zext
      · rw [List.length_cons, zsl_len fl i e he, zsl_len fl (i + 1) e he]
        omega
      · intro x hx
        rw [zsl_len fl i e he] at hx
        rw [zsl_get fl i e x hx]
        cases x with
        | zero => rfl
        | succ x =>
          show fl.getD (i + (x + 1)) 0 = (zsl fl (i + 1) e).getD x 0
          rw [zsl_get fl (i + 1) e x (by omega), show i + (x + 1) = i + 1 + x by omega]
    refine ⟨r2, d1, ?_, zq_tr c3 d3⟩
    rw [List.append_assoc] at d2
    rw [hs]
    exact d2
theorem zE_lit {w : List Int} (h : zlw w) (x : Nat) (hx : x < 9) : zPk w = zpack (zstr.getD x []) ↔ w = zstr.getD x [] := zPk_eq h (zstr_ok ⟨x, hx⟩) (zstr_len ⟨x, hx⟩)
theorem echo_loop (F : Nat) (hF : 110 ≤ F) (lev : Nat) (hlev : lev < 5) (ws : List (List Int)) (hl : zwl ws) (bare : Bool) (first : Nat) (hfirst : first ≤ 2) : ∀ (j k n n2 : Nat) (u : ZC) (r : ZR) (acc : List Int), ws.length ≤ k + j → first ≤ k → k ≤ 66 → j < n → j < n2 → zlim u r → zW u ws → zWr r ws → zH u (4 + 4 * lev) acc → zHr r acc → ∃ (w : List Int) (u2 : ZC) (r2 : ZR), cTools_echo_24 F n u (4 + 4 * lev) (zB bare) (first : Int) (k : Int) = some (0, u2) ∧ r_echo_38 F n2 r (zB bare) (first : Int) (k : Int) = some (0, r2) ∧ zH u2 (4 + 4 * lev) w ∧ zHr r2 w ∧ zFr (4 + 4 * lev) (4 + 4 * lev) 0 0 u u2 ∧ zq [35, 36] [34] r r2 := by
  have hlt : ∀ u : ZC, zlT u (4 + 4 * lev) := fun u => Or.inl (by omega)
  intro j
  induction j with
  | zero =>
    intro k n n2 u r acc hj hfk hk66 hn hn2 HL HW HR hH hHr
    obtain ⟨n, rfl⟩ : ∃ n', n = n' + 1 := ⟨n - 1, by omega⟩
    obtain ⟨n2, rfl⟩ : ∃ n', n2 = n' + 1 := ⟨n2 - 1, by omega⟩
    have hw64 := HW.2.1
    obtain ⟨hc1, hc2, -⟩ := zcap HL lev hlev
    have hk : zI (ws.length : Int) ≤ zI (k : Int) := by
      rw [zI_le (by omega) (by omega) (by omega) (by omega)]
      omega
    rw [cTools_echo_24, r_echo_38, HW.1, HR.1, if_pos hk, if_pos hk]
    cases bare
    · obtain ⟨u1, c1, c2, c3⟩ := add_is F (hlt u) hc2 hH 10 (Or.inl rfl)
      obtain ⟨r1, d1, d2, d3⟩ := emit_is F hHr 10
      simp only [zB_f, z00, not_true, if_false, if_pos (hlt u), c1, d1, Option.bind_some]
      exact ⟨acc ++ [10], u1, r1, rfl, rfl, c2, d2, c3, d3⟩
    · simp only [zB_t, z10, not_false_iff, if_true, Option.bind_some]
      exact ⟨acc, u, r, rfl, rfl, hH, hHr, zFr_rf _ _ _ _ u, zq_rf _ _ r⟩
  | succ j ih =>
    intro k n n2 u r acc hj hfk hk66 hn hn2 HL HW HR hH hHr
    by_cases hkl : ws.length ≤ k
    · exact ih k n n2 u r acc (by omega) hfk hk66 (by omega) (by omega) HL HW HR hH hHr
    · obtain ⟨n, rfl⟩ : ∃ n', n = n' + 1 := ⟨n - 1, by omega⟩
      obtain ⟨n2, rfl⟩ : ∃ n', n2 = n' + 1 := ⟨n2 - 1, by omega⟩
      have hw64 := HW.2.1
      obtain ⟨hc1, hc2, -⟩ := zcap HL lev hlev
      obtain ⟨m1, m2, m3⟩ := zst_mono ws k (by omega)
      have hk : ¬ zI (ws.length : Int) ≤ zI (k : Int) := by
        rw [zI_le (by omega) (by omega) (by omega) (by omega)]
        omega
      rw [cTools_echo_24, r_echo_38, HW.1, HR.1, if_neg hk, if_neg hk]
      -- the space ahead of it
      obtain ⟨acc1, u1, r1, s1, s2, s3, s4, s5, s6⟩ : ∃ (acc1 : List Int) (u1 : ZC) (r1 : ZR), (if zI (k : Int) ≤ zI (first : Int) then some u else if zlT u (4 + 4 * lev) then (Option.bind (cText_add F u (4 + 4 * lev) 32) fun (u5 : ZC) => some u5) else none) = some u1 ∧ (if zI (k : Int) ≤ zI (first : Int) then some r else Option.bind (r_emit F r 32) fun (u7 : ZR) => some u7) = some r1 ∧ zH u1 (4 + 4 * lev) acc1 ∧ zHr r1 acc1 ∧ zFr (4 + 4 * lev) (4 + 4 * lev) 0 0 u u1 ∧ zq [35, 36] [34] r r1 := by
        by_cases hkf : k ≤ first
        · have : zI (k : Int) ≤ zI (first : Int) := by
            rw [zI_le (by omega) (by omega) (by omega) (by omega)]
            omega
          simp only [if_pos this]
          exact ⟨acc, u, r, rfl, rfl, hH, hHr, zFr_rf _ _ _ _ u, zq_rf _ _ r⟩
        · have : ¬ zI (k : Int) ≤ zI (first : Int) := by
            rw [zI_le (by omega) (by omega) (by omega) (by omega)]
            omega
          obtain ⟨u1, c1, c2, c3⟩ := add_is F (hlt u) hc2 hH 32 (Or.inr (by omega))
          obtain ⟨r1, d1, d2, d3⟩ := emit_is F hHr 32
          simp only [if_neg this, if_pos (hlt u), c1, d1, Option.bind_some]
          exact ⟨acc ++ [32], u1, r1, rfl, rfl, c2, d2, c3, d3⟩
      rw [s1, s2]
      have HL1 := zlim_fr s5 s6 (by decide) HL
      have HW1 := zW_fr s5 (by omega) HW
      have HR1 := zWr_fr s6 (by decide) (by decide) HR
      simp only [Option.bind_some]
      rw [startOf_is F HW1 k (by omega), endOf_is F HW1 k (by omega), if_pos (show k ≤ ws.length by omega), if_pos (show k < ws.length by omega)]
      simp only [Option.bind_some, if_pos (hlt u1)]
      have hT1 := zW_T HW1
      obtain ⟨hc1', hc2', -⟩ := zcap HL1 lev hlev
      obtain ⟨x, u2, e1, e2, e3, -⟩ := addPiece_is F (hlt u1) (Or.inl (by decide)) hc2' (by rw [HW1.2.2.1]; omega) (by omega) s3 hT1 (zst ws k) (zst ws (k + 1)) m1 m2
      rw [e1]
      simp only [zb2_some]
      rw [if_pos (show zix (k : Int) 65 from ⟨by omega, by omega, by omega⟩), Int.toNat_natCast, (HR1.2.2.2.2 k (by omega)).1]
      obtain ⟨r2, f1, f2, f3⟩ := remit_word F HR1.2.2.1 (r_echo_38 F n2) k (zst ws (k + 1)) (by omega) m2 (zB bare) (first : Int) (zst ws (k + 1) - zst ws k) (zst ws k) F r1 acc1 (by omega) (by have := HR1.2.2.1; omega) s4 HR1.2.2.2.1 (HR1.2.2.2.2 k (by omega)).2
      rw [f1, show (k : Int) + 1 = ((k + 1 : Nat) : Int) by omega]
      obtain ⟨w, u3, r3, g1, g2, g3, g4, g5, g6⟩ := ih (k + 1) n n2 u2 r2 (acc1 ++ zsl ws.flatten (zst ws k) (zst ws (k + 1))) (by omega) (by omega) (by omega) (by omega) (by omega) (zlim_fr e3 f3 (by decide) HL1) (zW_fr e3 (by omega) HW1) (zWr_fr f3 (by decide) (by decide) HR1) e2 f2
      exact ⟨w, u3, r3, g1, g2, g3, g4, zFr_tr (zFr_tr s5 e3) g5, zq_tr (zq_tr s6 f3) g6⟩
theorem echo_alike (F : Nat) (hF : 110 ≤ F) {u : ZC} {r : ZR} {c h lev inp : Nat} {ws : List (List Int)} (E : zEv u r c h lev inp ws) (hH : zH u (4 + 4 * lev) []) (hHr : zHr r []) : ∃ (w : List Int) (u2 : ZC) (r2 : ZR), cTools_echo F u (4 + 4 * lev) = some (0, u2) ∧ r_echo F r = some (0, r2) ∧ zH u2 (4 + 4 * lev) w ∧ zHr r2 w ∧ zFr (4 + 4 * lev) (4 + 4 * lev) 0 0 u u2 ∧ zq [35, 36] [34] r r2 := by
  obtain ⟨HT, HL, ⟨hl, HW, HR, hw1⟩, ⟨hlev, -⟩, -⟩ := E
  have hw64 := HW.2.1
  have hh := has_is F (by omega) hl HW 1 (by omega) 0 (by omega)
  have hh' : cWords_has F u 1 0 = some (if 1 < ws.length ∧ ws.getD 1 [] = zstr.getD 0 [] then 1 else 0) := hh
  obtain ⟨bare, hb⟩ : ∃ bare : Bool, bare = decide (1 < ws.length ∧ ws.getD 1 [] = zstr.getD 0 []) := ⟨_, rfl⟩
  have e1 : (if 1 < ws.length ∧ ws.getD 1 [] = zstr.getD 0 [] then (1 : Int) else 0) = zB bare := by
    rw [hb]
    by_cases hx : 1 < ws.length ∧ ws.getD 1 [] = zstr.getD 0 []
    · rw [if_pos hx, decide_eq_true hx]; rfl
    · rw [if_neg hx, decide_eq_false hx]; rfl
  have e2 : (Option.bind (if zI (rI r 16) ≤ zI 1 then some true else Option.bind (r_wordAs F r 1) fun (p1 : Int64) => if ¬ p1 = (12787320231034880 : Int64) then some true else some false) fun (b2 : Bool) => if b2 = true then some (0 : Int) else some 1) = some (zB bare) := by
    rw [HR.1, hb]
    by_cases h1 : 1 < ws.length
    · have hwa := wordAs_is F (by omega) hl HR 1 h1 (by omega)
      have hwa' : r_wordAs F r 1 = some (zPk (ws.getD 1 [])) := hwa
      rw [if_neg (by rw [zI_le (by omega) (by omega) (by omega) (by omega)]; omega), hwa']
      simp only [Option.bind_some, h1, true_and]
      rw [← zlit.1]
      by_cases hx : ws.getD 1 [] = zstr.getD 0 []
      · rw [if_neg (not_not_intro ((zE_lit (zwl_get hl 1) 0 (by omega)).2 hx)), decide_eq_true hx]
        rfl
      · rw [if_pos (fun e => hx ((zE_lit (zwl_get hl 1) 0 (by omega)).1 e)), decide_eq_false hx]
        rfl
    · rw [if_pos (by rw [zI_le (by omega) (by omega) (by omega) (by omega)]; omega), decide_eq_false (fun hh => h1 hh.1)]
      rfl
  have e3 : (if zI (zB bare) = 0 then some (1 : Int) else some 2) = some (((if bare = true then 2 else 1 : Nat)) : Int) := by
    cases bare
    · rfl
    · rfl
  unfold cTools_echo r_echo
  rw [hh', e1, e2]
  simp only [Option.bind_some]
  rw [e3]
  simp only [Option.bind_some]
  exact echo_loop F hF lev hlev ws hl bare (if bare = true then 2 else 1) (by split <;> omega) ws.length (if bare = true then 2 else 1) F F u r [] (by omega) (Nat.le_refl _) (by split <;> omega) (by omega) (by omega) HL HW HR hH hHr
