/-! the line is cut alike: the loops -/
theorem ztC_is (u : ZC) (t : Nat) (k a b : Int) (h : cI u 2 0 = (t : Int)) (ht : t < 64) (K : ZC → Option (Int × ZC)) :
    (if zix (cI u 2 0) 64 then (if zix (cI (sA u 1 0 (cI u 2 0).toNat k) 2 0) 64 then (
    Option.bind (some (sA (sA u 1 0 (cI u 2 0).toNat k) 2 0 (cI (sA u 1 0 (cI u 2 0).toNat k) 2 0).toNat a)) fun (u6 : ZC) =>
    if zix (cI u6 2 0) 64 then (
    Option.bind (some (sI (sA u6 3 0 (cI u6 2 0).toNat b) 2 0 ((cI (sA u6 3 0 (cI u6 2 0).toNat b) 2 0) + 1))) fun (u7 : ZC) => K u7) else none) else none) else none) = K (ztC u t k a b) := by
  have hz : zix (cI u 2 0) 64 := ⟨by omega, by omega, by omega⟩
  rw [if_pos hz]
  show (if zix (cI u 2 0) 64 then (if zix (cI u 2 0) 64 then K _ else none) else none) = _
  rw [if_pos hz, if_pos hz]
  refine congrArg K (Prod.ext ?_ (Prod.ext rfl (Prod.ext rfl (Prod.ext ?_ rfl))))
  · funext f o
    show (if f = 2 ∧ o = 0 then cI u 2 0 + 1 else u.1 f o) = if f = 2 ∧ o = 0 then (t : Int) + 1 else u.1 f o
    rw [h]
  · funext f o j
    show (if f = 3 ∧ o = 0 ∧ j = (cI u 2 0).toNat then b else if f = 2 ∧ o = 0 ∧ j = (cI u 2 0).toNat then a else if f = 1 ∧ o = 0 ∧ j = (cI u 2 0).toNat then k else u.2.2.2.1 f o j) = if f = 1 ∧ o = 0 ∧ j = t then k else if f = 2 ∧ o = 0 ∧ j = t then a else if f = 3 ∧ o = 0 ∧ j = t then b else u.2.2.2.1 f o j
    rw [h, Int.toNat_natCast]
    by_cases h1 : f = 3 ∧ o = 0 ∧ j = t
    · rw [if_pos h1, if_neg (by omega), if_neg (by omega), if_pos h1]
    · rw [if_neg h1, if_neg h1]
      by_cases h2 : f = 2 ∧ o = 0 ∧ j = t
      · rw [if_pos h2, if_neg (by omega), if_pos h2]
      · rw [if_neg h2, if_neg h2]
theorem zmax_is {a b : Int} (h : -2147483648 ≤ a) (h2 : a < 2147483648) (h3 : -2147483648 ≤ b) (h4 : b < 2147483648) : zmax a b = if a < b then b else a := by
  unfold zmax
  simp only [zI_lt h h2 h3 h4]
theorem cut_loop (F : Nat) (hF : 70 ≤ F) {n : Nat} : ∀ (f p : Nat) (u : ZC) (r : ZR) (m mc mr : Nat), f = n - p → p ≤ n → zLn u n → zLr r (cA u 0 0) n → zTk u r m p → f < mc → f < mr →
    ∃ (a : Int) (u2 : ZC) (r2 : ZR), cTokens_cutLine_7 F mc u (p : Int) = some (a, u2) ∧ r_cut_11 F mr r 0 0 (p : Int) = some (a, r2) ∧ zfT u u2 ∧ zfR r r2 ∧ (a = 0 ∨ a = 1 ∧ ∃ m2 : Nat, zTk u2 r2 m2 n) := by
  intro f
  induction f using Nat.strongRecOn with
  | _ f ih =>
    intro p u r m mc mr hf hp HL HR HT hmc hmr
    obtain ⟨mc, rfl⟩ : ∃ m', mc = m' + 1 := ⟨mc - 1, by omega⟩
    have hC := HL
    obtain ⟨h1, h2, h3, h4⟩ := HL
    by_cases hpn : n ≤ p
    · obtain ⟨mr, rfl⟩ : ∃ m', mr = m' + 1 := ⟨mr - 1, by omega⟩
      have hpe : p = n := by omega
      refine ⟨1, u, r, ?_, ?_, zfT_rf u, zfR_rf r, Or.inr ⟨rfl, m, hpe ▸ HT⟩⟩
      · rw [cTokens_cutLine_7, if_pos (by rw [h1, zI_le (by omega) (by omega) (by omega) (by omega)]; omega)]
      · rw [r_cut_11, if_pos (by rw [HR.1, zI_le (by omega) (by omega) (by omega) (by omega)]; omega)]
        simp only [z00, not_true, if_false, Option.bind_some]
        rfl
    · have hLp := h4 p (by omega)
      have hRp := (HR.2.2 p (by omega)).1
      have hzc : zix (p : Int) (cN u 0) := ⟨by omega, by omega, by omega⟩
      have hzr : zix (p : Int) 64 := ⟨by omega, by omega, by omega⟩
      have e1 : (p : Int) + 1 = ((p + 1 : Nat) : Int) := by omega
      have hk := zkd_in (cA u 0 0) n p
      have hT := HT
      obtain ⟨t1, t2, t3, t4, t5⟩ := HT
      have c0 : ¬ zI (cI u 0 0) ≤ zI (p : Int) := by rw [h1, zI_le (by omega) (by omega) (by omega) (by omega)]; omega
      have r0 : ¬ zI (rI r 10) ≤ zI (p : Int) := by rw [HR.1, zI_le (by omega) (by omega) (by omega) (by omega)]; omega
      by_cases c32 : cA u 0 0 p = 32
      · obtain ⟨mr, rfl⟩ : ∃ m', mr = m' + 1 := ⟨mr - 1, by omega⟩
        obtain ⟨a, u2, r2, b1, b2, b3⟩ := ih (n - (p + 1)) (by omega) (p + 1) u r m mc mr rfl (by omega) hC HR (zTk_le hT (by omega)) (by omega) (by omega)
        refine ⟨a, u2, r2, ?_, ?_, b3⟩
        · rw [cTokens_cutLine_7, if_neg c0, if_pos hzc]
          simp only [Int.toNat_natCast, c32, if_true, cTokens_cutLine_134]
          rw [zmax_is (by omega) (by omega) (by omega) (by omega), if_neg (by omega), e1]
          exact b1
        · rw [r_cut_11, if_neg r0, if_pos hzr, operator_is F HR p (by omega)]
          simp only [Int.toNat_natCast, hRp, c32, if_true, not_true, if_false, z00, Option.bind_some, r_cut_178]
          rw [e1]
          exact b2
      · have d32 : ¬ zI (cA u 0 0 p) = zI 32 := by rw [zI_eq (by omega) (by omega) (by omega) (by omega)]; exact c32
        by_cases k11 : zkd (cA u 0 0) n p = 11
        · obtain ⟨mr, rfl⟩ : ∃ m', mr = m' + 1 := ⟨mr - 1, by omega⟩
          refine ⟨0, u, r, ?_, ?_, zfT_rf u, zfR_rf r, Or.inl rfl⟩
          · rw [cTokens_cutLine_7, if_neg c0, if_pos hzc, kindOf_is F hC p (by omega)]
            simp only [Int.toNat_natCast, d32, if_false, k11, Option.bind_some]
            rw [if_pos (by decide), widthOf_is F u 11 (by decide)]
            simp only [Option.bind_some, if_true]
          · rw [r_cut_11, if_neg r0, if_pos hzr, operator_is F HR p (by omega)]
            simp only [Int.toNat_natCast, hRp, d32, if_true, not_false_iff, z00, Option.bind_some, k11]
            rw [if_neg (by decide)]
        · by_cases k10 : zkd (cA u 0 0) n p = 10
          · -- a word
            have hw := wordEnd_is F hC (n - p) p false F hp (by omega) (by omega)
            have hin := zwe_in (cA u 0 0) n (n - p) p false hp (by omega)
            have hgt : p < (zwe (cA u 0 0) n (n - p) p false).1 := by
              obtain ⟨j, hj⟩ : ∃ j, n - p = j + 1 := ⟨n - p - 1, by omega⟩
              rw [hj]
              have i1 := (zwe_in (cA u 0 0) n j (p + 1) (!false) (by omega) (by omega)).1.1
              have i2 := (zwe_in (cA u 0 0) n j (p + 1) false (by omega) (by omega)).1.1
              simp only [zwe, hpn, if_false, c32, k10, ne_eq, not_true, or_self, reduceCtorEq]
              split
              · omega
              · omega
            -- the reference takes up the word
            have hRz : ∀ b, zLr (ztR r m 0 (p : Int) b) (cA u 0 0) n := fun b => zLr_keep (zfR_tR r m 0 (p : Int) b) HR
            obtain ⟨m2, w1, w2, w3, w4⟩ := rword_is F (k := 0) (a := (p : Int)) (by omega) hRz (n - p) p false mr hp (by omega) (by omega)
            have hfirst : r_cut_11 F mr r 0 0 (p : Int) = r_cut_11 F mr (ztR r m 0 (p : Int) (p : Int)) 1 0 (p : Int) := by
              obtain ⟨mr, rfl⟩ : ∃ m', mr = m' + 1 := ⟨mr - 1, by omega⟩
              have q0 : ¬ zI (rI (ztR r m 0 (p : Int) (p : Int)) 10) ≤ zI (p : Int) := by rw [(hRz (p : Int)).1, zI_le (by omega) (by omega) (by omega) (by omega)]; omega
              have hRp2 := ((hRz (p : Int)).2.2 p (by omega)).1
              rw [r_cut_11, r_cut_11, if_neg r0, if_pos hzr, if_neg q0, if_pos hzr, operator_is F HR p (by omega), operator_is F (hRz (p : Int)) p (by omega), k10]
              simp only [Int.toNat_natCast, hRp, hRp2, d32, if_true, not_false_iff, z00, Option.bind_some, z10, not_true, if_false, token_is F r m t2 (by omega), zb2_some]
              rw [show zrk 10 = 0 by decide]
              simp only [z00, if_true]
              rfl
            rw [show zB false = 0 from rfl] at w4 hw
            generalize zwe (cA u 0 0) n (n - p) p false = z at hw hin hgt w1 w2 w3 w4
            obtain ⟨e, q⟩ := z
            simp only at hw hin hgt w1 w2 w3 w4
            cases q
            · -- the word ends
              simp only [reduceCtorEq, if_false] at hw
              have hTk := zTk_add hT 10 e (e : Int) (by decide) hgt (fun _ => rfl)
              have hfC := zfT_tC u m 10 (p : Int) (e : Int)
              have hL2 := zLn_keep hfC hC
              have hR2 : zLr (ztR r m (zrk 10) (p : Int) (e : Int)) (cA (ztC u m 10 (p : Int) (e : Int)) 0 0) n := by rw [zfT_L hfC]; exact hRz _
              have i := ih (n - e) (by omega) e _ _ (m + 1) mc m2 rfl (by omega) hL2 hR2 hTk (by omega) (by omega)
              obtain ⟨a, u2, r2, b1, b2, b3, b4, b5⟩ := i
              refine ⟨a, u2, r2, ?_, ?_, zfT_tr hfC b3, zfR_tr (zfR_tR r m 0 (p : Int) (e : Int)) b4, b5⟩
              · rw [cTokens_cutLine_7, if_neg c0, if_pos hzc, kindOf_is F hC p (by omega), cTokens_wordEnd, hw]
                have g1 : ¬ zI (cI u 0 0) < zI (e : Int) := by rw [h1, zI_lt (by omega) (by omega) (by omega) (by omega)]; omega
                have g2 : zI (cI u 2 0) < zI 64 := by rw [t1, zI_lt (by omega) (by omega) (by omega) (by omega)]; omega
                simp only [Int.toNat_natCast, d32, if_false, k10, Option.bind_some, not_true, if_neg (show ¬ zI 10 = zI 11 by decide), g1, g2, if_true, reduceCtorEq]
                refine (ztC_is u m 10 (p : Int) (e : Int) t1 (by omega) (fun u7 => cTokens_cutLine_134 F (cTokens_cutLine_7 F mc) u7 (p : Int) (e : Int))).trans ?_
                rw [cTokens_cutLine_134, zmax_is (by omega) (by omega) (by omega) (by omega)]
                by_cases he : (p : Int) + 1 < e
                · rw [if_pos he]; exact b1
                · rw [if_neg he, show (p : Int) + 1 = (e : Int) by omega]; exact b1
              · rw [hfirst, w4, zB_f, rcut_out F (hRz _) hin.1.2 hin.2.2]
                exact b2
            · -- a quote stays open
              simp only [if_true] at hw
              have hen := hin.2.1 rfl
              subst hen
              refine ⟨0, u, ztR r m 0 (p : Int) (e : Int), ?_, ?_, zfT_rf u, zfR_tR r m 0 (p : Int) (e : Int), Or.inl rfl⟩
              · rw [cTokens_cutLine_7, if_neg c0, if_pos hzc, kindOf_is F hC p (by omega), cTokens_wordEnd, hw]
                have g1 : zI (cI u 0 0) < zI ((e : Int) + 1) := by rw [h1, zI_lt (by omega) (by omega) (by omega) (by omega)]; omega
                simp only [Int.toNat_natCast, d32, if_false, k10, Option.bind_some, not_true, if_neg (show ¬ zI 10 = zI 11 by decide), g1, if_true]
              · obtain ⟨m2, rfl⟩ : ∃ m', m2 = m' + 1 := ⟨m2 - 1, by omega⟩
                rw [hfirst, w4, zB_t, r_cut_11, if_pos (by rw [(hRz (e : Int)).1, zI_le (by omega) (by omega) (by omega) (by omega)]; omega)]
                simp only [z10, not_false_iff, if_true, Option.bind_some]
                rfl
          · -- an operator
            obtain ⟨mr, rfl⟩ : ∃ m', mr = m' + 1 := ⟨mr - 1, by omega⟩
            have hwd := zwd_in (zkd (cA u 0 0) n p)
            have hle := zwd_le (cA u 0 0) n p (by omega)
            have hwo := widthOf_is F u (zkd (cA u 0 0) n p) hk
            have hop := operator_is F HR p (by omega)
            have hko := kindOf_is F hC p (by omega)
            have hr : (zrk (zkd (cA u 0 0) n p) ≠ 0 ∧ 0 ≤ zrk (zkd (cA u 0 0) n p) ∧ zrk (zkd (cA u 0 0) n p) ≤ 10) ∧ ((zrk (zkd (cA u 0 0) n p) = 2 ∨ zrk (zkd (cA u 0 0) n p) = 3 ∨ zrk (zkd (cA u 0 0) n p) = 6) ↔ zwd (zkd (cA u 0 0) n p) = 2) := by
              have : ∀ k : Int, 0 ≤ k ∧ k ≤ 11 → k ≠ 11 → k ≠ 10 → (zrk k ≠ 0 ∧ 0 ≤ zrk k ∧ zrk k ≤ 10) ∧ ((zrk k = 2 ∨ zrk k = 3 ∨ zrk k = 6) ↔ zwd k = 2) := by
                intro k hk2 hk3 hk4
                have : k = 0 ∨ k = 1 ∨ k = 2 ∨ k = 3 ∨ k = 4 ∨ k = 5 ∨ k = 6 ∨ k = 7 ∨ k = 8 ∨ k = 9 := by omega
                rcases this with rfl | rfl | rfl | rfl | rfl | rfl | rfl | rfl | rfl | rfl <;> decide
              exact this _ hk k11 k10
            generalize hkk : zkd (cA u 0 0) n p = k at hk k11 k10 hwd hle hwo hop hko hr
            have hTk := zTk_add hT k (p + zwd k) (p : Int) ⟨hk.1, by omega⟩ (by omega) (fun h => absurd h k10)
            have hfC := zfT_tC u m k (p : Int) ((p + zwd k : Nat) : Int)
            have hfR := zfR_tR r m (zrk k) (p : Int) (p : Int)
            have hL2 := zLn_keep hfC hC
            have hR2 : zLr (ztR r m (zrk k) (p : Int) (p : Int)) (cA (ztC u m k (p : Int) ((p + zwd k : Nat) : Int)) 0 0) n := by rw [zfT_L hfC]; exact zLr_keep hfR HR
            obtain ⟨a, u2, r2, b1, b2, b3, b4, b5⟩ := ih (n - (p + zwd k)) (by omega) (p + zwd k) _ _ (m + 1) mc mr rfl (by omega) hL2 hR2 hTk (by omega) (by omega)
            refine ⟨a, u2, r2, ?_, ?_, zfT_tr hfC b3, zfR_tr hfR b4, b5⟩
            · have g0 : ¬ zI k = zI 10 := by rw [zI_eq (by omega) (by omega) (by omega) (by omega)]; exact k10
              have g3 : ¬ zI k = zI 11 := by rw [zI_eq (by omega) (by omega) (by omega) (by omega)]; exact k11
              have g1 : ¬ zI (cI u 0 0) < zI ((p : Int) + (zwd k : Int)) := by rw [h1, zI_lt (by omega) (by omega) (by omega) (by omega)]; omega
              have g2 : zI (cI u 2 0) < zI 64 := by rw [t1, zI_lt (by omega) (by omega) (by omega) (by omega)]; omega
              rw [cTokens_cutLine_7, if_neg c0, if_pos hzc, hko]
              simp only [Int.toNat_natCast, d32, if_false, Option.bind_some, g0, not_false_iff, hwo, g3, g1, g2, if_true, reduceCtorEq]
              refine (ztC_is u m k (p : Int) ((p : Int) + (zwd k : Int)) t1 (by omega) (fun u7 => cTokens_cutLine_134 F (cTokens_cutLine_7 F mc) u7 (p : Int) ((p : Int) + (zwd k : Int)))).trans ?_
              rw [cTokens_cutLine_134, zmax_is (by omega) (by omega) (by omega) (by omega)]
              have ew : (p : Int) + (zwd k : Int) = ((p + zwd k : Nat) : Int) := by omega
              rw [ew]
              by_cases he : (p : Int) + 1 < ((p + zwd k : Nat) : Int)
              · rw [if_pos he]; exact b1
              · rw [if_neg he, show (p : Int) + 1 = ((p + zwd k : Nat) : Int) by omega]; exact b1
            · have g0 : 0 ≤ zI (zrk k) := by rw [zI_0le (by omega) (by omega)]; exact hr.1.2.1
              have g1 : ¬ zI (zrk k) = 0 := by rw [zI_eq0 (by omega) (by omega)]; exact hr.1.1
              rw [r_cut_11, if_neg r0, if_pos hzr, hop]
              simp only [Int.toNat_natCast, hRp, d32, if_true, not_false_iff, z00, Option.bind_some, g0, g1, if_false, token_is F r m t2 (by omega), zI_eq (a := zrk k) (b := 2) (by omega) (by omega) (by omega) (by omega), zI_eq (a := zrk k) (b := 3) (by omega) (by omega) (by omega) (by omega), zI_eq (a := zrk k) (b := 6) (by omega) (by omega) (by omega) (by omega)]
              by_cases hw2 : zwd k = 2
              · have h236 := hr.2.2 hw2
                have : (if zrk k = 2 then some true else if zrk k = 3 then some true else if ¬ zrk k = 6 then some false else some true) = some true := by
                  rcases h236 with h | h | h <;> simp [h]
                rw [this]
                simp only [Option.bind_some, if_true, zb4_some, r_cut_178]
                rw [show (p : Int) + 1 + 1 = ((p + zwd k : Nat) : Int) by omega]
                exact b2
              · have h236 : ¬ (zrk k = 2 ∨ zrk k = 3 ∨ zrk k = 6) := fun h => hw2 (hr.2.1 h)
                have : (if zrk k = 2 then some true else if zrk k = 3 then some true else if ¬ zrk k = 6 then some false else some true) = some false := by
                  simp only [not_or] at h236
                  simp [h236]
                rw [this]
                simp only [Option.bind_some, if_false, zb4_some, r_cut_178, reduceCtorEq]
                rw [show (p : Int) + 1 = ((p + zwd k : Nat) : Int) by omega]
                exact b2
