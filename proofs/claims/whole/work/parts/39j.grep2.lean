/-! grep: the lines -/
theorem emitLine_loop (F : Nat) {v : List Int} (hv : v.length ≤ 160) (l e : Nat) (hl : l < 161) (he : e ≤ v.length) : ∀ (j i n : Nat) (r : ZR) (acc : List Int), i + j = e → j < n → zHr r acc → zRA r 37 0 v → rA r 41 l = (e : Int) → ∃ r2, r_emitLine_7 F n r (l : Int) (i : Int) = some r2 ∧ zHr r2 (acc ++ (zsl v i e ++ [10])) ∧ zq [35, 36] [34] r r2 := by
  have hz : zix (l : Int) 161 := ⟨by omega, by omega, by omega⟩
  intro j
  induction j with
  | zero =>
    intro i n r acc hi hn hH hR h41
    obtain ⟨n, rfl⟩ : ∃ n', n = n' + 1 := ⟨n - 1, by omega⟩
    have : zsl v i e = [] := List.eq_nil_of_length_eq_zero (by rw [zsl_len v i e he]; omega)
    obtain ⟨r1, c1, c2, c3⟩ := emit_is F hH 10
    refine ⟨r1, ?_, by rw [this, List.nil_append]; exact c2, c3⟩
    rw [r_emitLine_7, if_pos hz, Int.toNat_natCast, h41, if_pos (by rw [zI_le (by omega) (by omega) (by omega) (by omega)]; omega), c1]
    rfl
  | succ j ih =>
    intro i n r acc hi hn hH hR h41
    obtain ⟨n, rfl⟩ : ∃ n', n = n' + 1 := ⟨n - 1, by omega⟩
    have eb := hR i (by omega)
    rw [Nat.zero_add] at eb
    obtain ⟨r1, c1, c2, c3⟩ := emit_is F hH (v.getD i 0)
    rw [r_emitLine_7, if_pos hz, Int.toNat_natCast, h41, if_neg (by rw [zI_le (by omega) (by omega) (by omega) (by omega)]; omega), if_pos (show zix (i : Int) 160 from ⟨by omega, by omega, by omega⟩), Int.toNat_natCast, eb, c1]
    simp only [Option.bind_some]
    rw [show (i : Int) + 1 = ((i + 1 : Nat) : Int) by omega]
    obtain ⟨r2, d1, d2, d3⟩ := ih (i + 1) n r1 (acc ++ [v.getD i 0]) (by omega) (by omega) c2 (fun x hx => by rw [c3.2.2.1 37 _ (by decide)]; exact hR x hx) (by rw [c3.2.2.1 41 _ (by decide)]; exact h41)
    have hs : zsl v i e = v.getD i 0 :: zsl v (i + 1) e := by
      apply zext
      · rw [List.length_cons, zsl_len v i e he, zsl_len v (i + 1) e he]
        omega
      · intro x hx
        rw [zsl_len v i e he] at hx
        rw [zsl_get v i e x hx]
        cases x with
        | zero => rfl
        | succ x =>
          show v.getD (i + (x + 1)) 0 = (zsl v (i + 1) e).getD x 0
          rw [zsl_get v (i + 1) e x (by omega), show i + (x + 1) = i + 1 + x by omega]
    refine ⟨r2, d1, ?_, zq_tr c3 d3⟩
    rw [List.append_assoc] at d2
    rw [hs]
    exact d2
/-- the reference's loop over the places of a line -/
theorem rhit_loop (F : Nat) (hF : 200 ≤ F) (K : ZR → Int → Int → Int → Int → Int → Int → Int → Option (Int × ZR)) {r : ZR} {fl v : List Int} (hfl : fl.length ≤ 96) (hL : zlw fl) (hR : zRA r 20 0 fl) (hS : zSrc r v) (a b : Nat) (hab : a ≤ b) (hb : b ≤ fl.length) (bg en : Bool) (v1 v7 : Int) (l s e : Nat) (hl : l < 161) (hse : s ≤ e) (he : e ≤ v.length) (h40 : rA r 40 l = (s : Int)) : ∀ (j p n : Nat) (hit : Bool), (e : Int) - ((b : Int) - (a : Int)) < (p : Int) + j → s ≤ p → p ≤ 170 → j < n → ∃ x : Bool, (x = true ↔ hit = true ∨ ∃ q : Nat, p ≤ q ∧ q + (b - a) ≤ e ∧ (bg = true → q = s) ∧ (en = true → q + (b - a) = e) ∧ zfp fl v a b q = true) ∧
    r_grep_204 F K n r v1 (a : Int) (b : Int) (zB bg) (zB en) v7 (l : Int) (zB hit) ((e : Int) - ((b : Int) - (a : Int))) (p : Int) = zb2 (if zI (zB x) = zI v1 then some (v7, r) else Option.bind (r_emitLine F r (l : Int)) fun (u15 : ZR) => some (v7 + 1, u15)) (fun (x16 : Int) (u17 : ZR) => K u17 v1 (a : Int) (b : Int) (zB bg) (zB en) x16 ((l : Int) + 1)) := by
  have hv := hS.2.1
  have hend : ∀ (n p : Nat) (hit : Bool), (e : Int) - ((b : Int) - (a : Int)) < (p : Int) → p ≤ 170 → r_grep_204 F K (n + 1) r v1 (a : Int) (b : Int) (zB bg) (zB en) v7 (l : Int) (zB hit) ((e : Int) - ((b : Int) - (a : Int))) (p : Int) = zb2 (if zI (zB hit) = zI v1 then some (v7, r) else Option.bind (r_emitLine F r (l : Int)) fun (u15 : ZR) => some (v7 + 1, u15)) (fun (x16 : Int) (u17 : ZR) => K u17 v1 (a : Int) (b : Int) (zB bg) (zB en) x16 ((l : Int) + 1)) := by
    intro n p hit hlt hp
    rw [r_grep_204, if_pos (by rw [zI_lt (by omega) (by omega) (by omega) (by omega)]; omega)]
  intro j
  induction j with
  | zero =>
    intro p n hit hj hsp hp hn
    obtain ⟨n, rfl⟩ : ∃ n', n = n' + 1 := ⟨n - 1, by omega⟩
    refine ⟨hit, ⟨fun h => Or.inl h, fun h => h.elim id (fun ⟨q, h1, h2, _⟩ => by omega)⟩, hend n p hit (by omega) hp⟩
  | succ j ih =>
    intro p n hit hj hsp hp hn
    obtain ⟨n, rfl⟩ : ∃ n', n = n' + 1 := ⟨n - 1, by omega⟩
    by_cases hlt : (e : Int) - ((b : Int) - (a : Int)) < (p : Int)
    · refine ⟨hit, ⟨fun h => Or.inl h, fun h => h.elim id (fun ⟨q, h1, h2, _⟩ => by omega)⟩, hend n p hit hlt hp⟩
    · have hplace : (Option.bind (if zI (zB bg) = 0 then (if zI (zB en) = 0 then some false else if ¬ zI (p : Int) = zI ((e : Int) - ((b : Int) - (a : Int))) then some true else some false) else if zix (l : Int) 161 then (if ¬ zI (p : Int) = zI (rA r 40 (l : Int).toNat) then some true else if zI (zB en) = 0 then some false else if ¬ zI (p : Int) = zI ((e : Int) - ((b : Int) - (a : Int))) then some true else some false) else none) fun (b18 : Bool) => if b18 = true then some (0 : Int) else some 1) = some (zB (decide ((bg = true → p = s) ∧ (en = true → p + (b - a) = e)))) := by
        rw [Int.toNat_natCast, h40]
        have k1 : zI (p : Int) = zI ((e : Int) - ((b : Int) - (a : Int))) ↔ p + (b - a) = e := by rw [zI_eq (by omega) (by omega) (by omega) (by omega)]; omega
        have k2 : zI (p : Int) = zI (s : Int) ↔ p = s := by rw [zI_eq (by omega) (by omega) (by omega) (by omega)]; omega
        simp only [k1, k2, if_pos (show zix (l : Int) 161 from ⟨by omega, by omega, by omega⟩)]
        cases bg
        · cases en
          · simp [zB, z00]
          · by_cases hq : p + (b - a) = e
            · simp [zB, z00, z10, hq]
            · simp [zB, z00, z10, hq]
        · cases en
          · by_cases hq : p = s
            · simp [zB, z00, z10, hq]
            · simp [zB, z00, z10, hq]
          · by_cases hq : p = s
            · by_cases hq2 : p + (b - a) = e
              · simp only [zB_t, z10, if_false, hq2, not_true, if_true, true_implies, hq, and_self, decide_true, Option.bind_some, reduceCtorEq]
                rw [hq] at hq2
                simp [hq2, zB]
              · simp only [zB_t, z10, if_false, hq2, not_false_iff, if_true, true_implies, and_false, decide_false, Option.bind_some]
                simp [hq]
                rfl
            · simp only [zB_t, z10, if_false, hq, not_false_iff, if_true, true_implies, false_and, decide_false, Option.bind_some]
              rfl
      rw [r_grep_204, if_neg (by rw [zI_lt (by omega) (by omega) (by omega) (by omega)]; omega), hplace]
      simp only [Option.bind_some]
      have hst := stands_is F (by omega) hfl hL hR hS a b hab hb p (by omega)
      have hx22 : (Option.bind (if ¬ zI (zB hit) = 0 then some true else if zI (zB (decide ((bg = true → p = s) ∧ (en = true → p + (b - a) = e)))) = 0 then some false else Option.bind (r_stands F r (a : Int) (b : Int) (p : Int)) fun (p20 : Int) => if zI p20 = 0 then some false else some true) fun (b21 : Bool) => if b21 = true then some (1 : Int) else some 0) = some (zB (hit || (decide ((bg = true → p = s) ∧ (en = true → p + (b - a) = e)) && zfp fl v a b p))) := by
        rw [hst]
        cases hit
        · cases decide ((bg = true → p = s) ∧ (en = true → p + (b - a) = e))
          · rfl
          · cases zfp fl v a b p
            · rfl
            · rfl
        · rfl
      rw [hx22]
      simp only [Option.bind_some]
      rw [show (p : Int) + 1 = ((p + 1 : Nat) : Int) by omega]
      obtain ⟨x, c1, c2⟩ := ih (p + 1) n (hit || (decide ((bg = true → p = s) ∧ (en = true → p + (b - a) = e)) && zfp fl v a b p)) (by omega) (by omega) (by omega) (by omega)
      refine ⟨x, c1.trans ⟨fun h => ?_, fun h => ?_⟩, c2⟩
      · rcases h with h | ⟨q, h1, h2⟩
        · rw [Bool.or_eq_true, Bool.and_eq_true, decide_eq_true_eq] at h
          rcases h with h | ⟨h1, h2⟩
          · exact Or.inl h
          · exact Or.inr ⟨p, Nat.le_refl _, by omega, h1.1, h1.2, h2⟩
        · exact Or.inr ⟨q, by omega, h2⟩
      · rw [Bool.or_eq_true, Bool.and_eq_true, decide_eq_true_eq]
        rcases h with h | ⟨q, h1, h2, h3, h4, h5⟩
        · exact Or.inl (Or.inl h)
        · by_cases hqp : q = p
          · subst hqp
            exact Or.inl (Or.inr ⟨⟨h3, h4⟩, h5⟩)
          · exact Or.inr ⟨q, by omega, h2, h3, h4, h5⟩
theorem zHr_len {r : ZR} {w : List Int} (H : zHr r w) : True := trivial
theorem zl_len (v : List Int) : ∀ (j k a : Nat), (zl v j k a).length ≤ j := by
  intro j
  induction j with
  | zero => intro k a; exact Nat.le_refl _
  | succ j ih =>
    intro k a
    have h1 := ih (k + 1) (k + 1)
    have h2 := ih (k + 1) a
    rw [zl]
    split
    · rw [List.length_cons]; omega
    · omega
/-- both loops over the lines -/
theorem grep_loop (F : Nat) (hF : 200 ≤ F) {ws : List (List Int)} {v : List Int} (hl : zwl ws) (k : Nat) (hk : k < ws.length) (hv : v.length ≤ 160) (hok : ∀ x ∈ v, zOk x) (lev src inp : Nat) (hlev : lev < 5) (hsrc : src ≠ 4 + 4 * lev ∧ src ≠ 1) (hinp : inp ≠ 4 + 4 * lev) (hi23 : inp < 23) (fi others : Bool) : ∀ (j i n n2 : Nat) (u : ZC) (r : ZR) (acc : List Int) (s : Nat) (L0 : List (Nat × Nat)) (found : Nat), i + j = v.length + 1 → s ≤ i → j < n → j < n2 → L0.length ≤ i → found ≤ i → zlim u r → zW u ws → zWr r ws → zlT u src → cN u src ≤ 200 → zT u src v → zSrc r v → zl v (v.length + 1) 0 0 = L0 ++ zl v j i s → zH u (4 + 4 * lev) acc → zHr r acc → (found = 0 → acc = []) →
    ∃ (st : Int) (w : List Int) (u2 : ZC) (r2 : ZR), cTools_grep_116 F n u inp (4 + 4 * lev) (zB others) (k : Int) (zB fi) src (if found = 0 then 1 else 0) (s : Int) (i : Int) = some (st, u2) ∧ r_grep_169 F n2 r (zB others) ((zpt ws.flatten (zst ws k) (zst ws (k + 1))).1 : Int) ((zpt ws.flatten (zst ws k) (zst ws (k + 1))).2.1 : Int) (zB (zpt ws.flatten (zst ws k) (zst ws (k + 1))).2.2.1) (zB (zpt ws.flatten (zst ws k) (zst ws (k + 1))).2.2.2) (found : Int) (L0.length : Int) = some (st, r2) ∧ (st = 0 ∨ st = 1) ∧ (st ≠ 0 → w = []) ∧ zH u2 (4 + 4 * lev) w ∧ zHr r2 w ∧ zq [35, 36] [34] r r2 ∧ (fi = false → zFr (4 + 4 * lev) (4 + 4 * lev) 0 0 u u2) ∧ (fi = true → zFr (4 + 4 * lev) inp 0 0 u u2 ∧ zT u2 inp []) := by
  have hlt : ∀ u : ZC, zlT u (4 + 4 * lev) := fun u => Or.inl (by omega)
  intro j
  induction j with
  | zero =>
    intro i n n2 u r acc s L0 found hi hs hn hn2 hL0 hfnd HL HW HR hls hcs hT hS hz hH hHr hacc
    obtain ⟨n, rfl⟩ : ∃ n', n = n' + 1 := ⟨n - 1, by omega⟩
    obtain ⟨n2, rfl⟩ : ∃ n', n2 = n' + 1 := ⟨n2 - 1, by omega⟩
    have hzl : (zl v (v.length + 1) 0 0).length = L0.length := by rw [hz, zl, List.append_nil]
    have h39 : rI r 39 = (L0.length : Int) := by rw [hS.2.2.2.2.1, hzl]
    have hr : r_grep_169 F (n2 + 1) r (zB others) ((zpt ws.flatten (zst ws k) (zst ws (k + 1))).1 : Int) ((zpt ws.flatten (zst ws k) (zst ws (k + 1))).2.1 : Int) (zB (zpt ws.flatten (zst ws k) (zst ws (k + 1))).2.2.1) (zB (zpt ws.flatten (zst ws k) (zst ws (k + 1))).2.2.2) (found : Int) (L0.length : Int) = some (if found = 0 then 1 else 0, r) := by
      rw [r_grep_169, h39, if_pos (by rw [zI_le (by omega) (by omega) (by omega) (by omega)]; omega)]
      by_cases hf : found = 0
      · rw [if_pos (by rw [hf]; decide), if_pos hf]
        rfl
      · rw [if_neg (by rw [zI_le0 (by omega) (by omega)]; omega), if_neg hf]
        rfl
    have hcl : cTools_grep_116 F (n + 1) u inp (4 + 4 * lev) (zB others) (k : Int) (zB fi) src (if found = 0 then 1 else 0) (s : Int) (i : Int) = (Option.bind (if zI (zB fi) = 0 then some u else if zlT u inp then (Option.bind (cText_clear F u inp) fun (u11 : ZC) => some u11) else none) fun (u12 : ZC) => some (if found = 0 then 1 else 0, u12)) := by
      rw [cTools_grep_116, if_pos hls, hT.1, if_pos (by rw [zI_lt (by omega) (by omega) (by omega) (by omega)]; omega)]
    rw [hcl, hr]
    have hst : ((if found = 0 then (1 : Int) else 0) = 0 ∨ (if found = 0 then (1 : Int) else 0) = 1) ∧ ((if found = 0 then (1 : Int) else 0) ≠ 0 → acc = []) := by
      by_cases hf : found = 0
      · rw [if_pos hf]; exact ⟨Or.inr rfl, fun _ => hacc hf⟩
      · rw [if_neg hf]; exact ⟨Or.inl rfl, fun hh => absurd rfl hh⟩
    cases fi
    · rw [zB_f, if_pos z00]
      exact ⟨_, acc, u, r, rfl, rfl, hst.1, hst.2, hH, hHr, zq_rf _ _ r, fun _ => zFr_rf _ _ _ _ u, fun hh => absurd hh (by decide)⟩
    · obtain ⟨u7, h1, h2, h3⟩ := clear_is F (u := u) (t := inp) (Or.inl hi23)
      rw [zB_t, if_neg z10, if_pos (show zlT u inp from Or.inl hi23), h1]
      exact ⟨_, acc, u7, r, rfl, rfl, hst.1, hst.2, zFr_H h3 (by omega) hH, hHr, zq_rf _ _ r, fun hh => absurd hh (by decide), fun _ => ⟨zFr_mono h3 (by omega) (by omega) (by omega) (by omega), (h2.2.1 (Nat.zero_le _)).2⟩⟩
  | succ j ih =>
    intro i n n2 u r acc s L0 found hi hs hn hn2 hL0 hfnd HL HW HR hls hcs hT hS hz hH hHr hacc
    obtain ⟨n, rfl⟩ : ∃ n', n = n' + 1 := ⟨n - 1, by omega⟩
    have hx4 : (if zI (v.length : Int) ≤ zI (i : Int) then (if zI (i : Int) ≤ zI (s : Int) then some (0 : Int) else some 1) else if zix (i : Int) (cN u src) then (if ¬ zI (cA u 0 src (i : Int).toNat) = zI 10 then some 0 else some 1) else none) = some (if (i < v.length ∧ v.getD i 0 = 10) ∨ (v.length ≤ i ∧ s < i) then 1 else 0) := by
      by_cases hkl : v.length ≤ i
      · rw [if_pos (by rw [zI_le (by omega) (by omega) (by omega) (by omega)]; omega)]
        by_cases hak : s < i
        · rw [if_neg (by rw [zI_le (by omega) (by omega) (by omega) (by omega)]; omega), if_pos (Or.inr ⟨hkl, hak⟩)]
        · rw [if_pos (by rw [zI_le (by omega) (by omega) (by omega) (by omega)]; omega), if_neg (by omega)]
      · have e := hT.2.2.1 i (by omega)
        have hlen2 := hT.2.1
        have hr := hok (v.getD i 0) (by rw [zgE v i (by omega)]; exact List.getElem_mem _)
        unfold zOk at hr
        rw [if_neg (by rw [zI_le (by omega) (by omega) (by omega) (by omega)]; omega), if_pos (show zix (i : Int) (cN u src) from ⟨by omega, by omega, by omega⟩), Int.toNat_natCast, e]
        by_cases h10 : v.getD i 0 = 10
        · rw [if_neg (not_not_intro (by rw [h10])), if_pos (Or.inl ⟨by omega, h10⟩)]
        · rw [if_pos (by rw [zI_eq (by omega) (by omega) (by omega) (by omega)]; exact h10), if_neg (by omega)]
    rw [cTools_grep_116, if_pos hls, hT.1, if_neg (by rw [zI_lt (by omega) (by omega) (by omega) (by omega)]; omega), hx4]
    simp only [Option.bind_some]
    rw [show (i : Int) + 1 = ((i + 1 : Nat) : Int) by omega]
    by_cases hends : (i < v.length ∧ v.getD i 0 = 10) ∨ (v.length ≤ i ∧ s < i)
    · obtain ⟨n2, rfl⟩ : ∃ n', n2 = n' + 1 := ⟨n2 - 1, by omega⟩
      have hzz : zl v (j + 1) i s = (s, i) :: zl v j (i + 1) (i + 1) := by rw [zl, if_pos hends]
      rw [hzz] at hz
      simp only [if_pos hends, if_neg z10]
      have hile : i ≤ v.length := by omega
      obtain ⟨x, m1, m2⟩ := matches_is F hF hl HW k hk src hls hT hv s i hs hile
      rw [m1]
      -- the reference at this line
      have hzlen : (zl v (v.length + 1) 0 0).length = L0.length + (1 + (zl v j (i + 1) (i + 1)).length) := by rw [hz, List.length_append, List.length_cons]; omega
      have hzl161 := zl_len v (v.length + 1) 0 0
      have hg : (zl v (v.length + 1) 0 0).getD L0.length (0, 0) = (s, i) := by
        rw [hz, zgA2, if_neg (by omega), Nat.sub_self]
        rfl
      obtain ⟨q1, q2⟩ := hS.2.2.2.2.2 L0.length (by omega)
      rw [hg] at q1 q2
      obtain ⟨i1, i2, i3⟩ := zpt_in ws.flatten (zst ws k) (zst ws (k + 1)) (zst_mono ws k hk).1
      have hp2 := (zst_mono ws k hk).2.1
      have hfl := HR.2.2.1
      obtain ⟨y, y1, y2⟩ := rhit_loop F hF (r_grep_169 F n2) hfl (zwl_flat hl) HR.2.2.2.1 hS (zpt ws.flatten (zst ws k) (zst ws (k + 1))).1 (zpt ws.flatten (zst ws k) (zst ws (k + 1))).2.1 i2 (by omega) (zpt ws.flatten (zst ws k) (zst ws (k + 1))).2.2.1 (zpt ws.flatten (zst ws k) (zst ws (k + 1))).2.2.2 (zB others) (found : Int) L0.length s i (by omega) hs hile q1 171 s F false (by omega) (Nat.le_refl _) (by omega) (by omega)
      have hxy : y = x := by
        have : y = true ↔ x = true := by
          rw [y1, m2]
          unfold zhit
          constructor
          · rintro (hh | hh)
            · cases hh
            · exact hh
          · intro hh
            exact Or.inr hh
        exact Bool.eq_iff_iff.2 this
      subst hxy
      have hrstep : r_grep_169 F (n2 + 1) r (zB others) ((zpt ws.flatten (zst ws k) (zst ws (k + 1))).1 : Int) ((zpt ws.flatten (zst ws k) (zst ws (k + 1))).2.1 : Int) (zB (zpt ws.flatten (zst ws k) (zst ws (k + 1))).2.2.1) (zB (zpt ws.flatten (zst ws k) (zst ws (k + 1))).2.2.2) (found : Int) (L0.length : Int) = zb2 (if zI (zB y) = zI (zB others) then some ((found : Int), r) else Option.bind (r_emitLine F r (L0.length : Int)) fun (u15 : ZR) => some ((found : Int) + 1, u15)) (fun (x16 : Int) (u17 : ZR) => r_grep_169 F n2 u17 (zB others) ((zpt ws.flatten (zst ws k) (zst ws (k + 1))).1 : Int) ((zpt ws.flatten (zst ws k) (zst ws (k + 1))).2.1 : Int) (zB (zpt ws.flatten (zst ws k) (zst ws (k + 1))).2.2.1) (zB (zpt ws.flatten (zst ws k) (zst ws (k + 1))).2.2.2) x16 ((L0.length : Int) + 1)) := by
        rw [r_grep_169, hS.2.2.2.2.1, if_neg (by rw [zI_le (by omega) (by omega) (by omega) (by omega)]; omega), if_pos (show zix (L0.length : Int) 161 from ⟨by omega, by omega, by omega⟩), Int.toNat_natCast, q1, q2]
        exact y2
      rw [hrstep]
      have hL1 : ((L0.length : Int) + 1) = ((L0 ++ [(s, i)]).length : Int) := by rw [List.length_append, List.length_singleton]; omega
      have hz1 : zl v (v.length + 1) 0 0 = (L0 ++ [(s, i)]) ++ zl v j (i + 1) (i + 1) := by rw [hz, List.append_assoc]; rfl
      have hbeq : zI (zB y) = zI (zB others) ↔ y = others := by cases y <;> cases others <;> decide
      by_cases hyo : y = others
      · simp only [Option.bind_some, if_pos (hbeq.2 hyo), zb2_some, if_true]
        rw [hL1]
        exact ih (i + 1) n n2 u r acc (i + 1) (L0 ++ [(s, i)]) found (by omega) (Nat.le_refl _) (by omega) (by omega) (by rw [List.length_append, List.length_singleton]; omega) (by omega) HL HW HR hls hcs hT hS hz1 hH hHr hacc
      · obtain ⟨hc1, hc2, -⟩ := zcap HL lev hlev
        obtain ⟨xx, u3, a1, a2, a3, -⟩ := addPiece_is F (hlt u) hls hc2 hcs hsrc.1 hH hT s i hs hile
        obtain ⟨u4, b1, b2, b3⟩ := add_is F (hlt u3) (by rw [a3.2.2.2.2.1]; exact hc2) a2 10 (Or.inl rfl)
        have f13 := zFr_tr a3 b3
        obtain ⟨r3, d1, d2, d3⟩ := emitLine_loop F hv L0.length i (by omega) hile (i - s) s F r acc (by omega) (by omega) hHr hS.2.2.2.1 q2
        have d1' : r_emitLine F r (L0.length : Int) = some r3 := by
          unfold r_emitLine
          rw [if_pos (show zix (L0.length : Int) 161 from ⟨by omega, by omega, by omega⟩), Int.toNat_natCast, q1]
          exact d1
        simp only [Option.bind_some, if_neg (fun hh => hyo (hbeq.1 hh)), d1', zb2_some, reduceCtorEq, if_false, if_pos (hlt u), a1, if_pos (hlt u3), b1]
        rw [hL1, show (found : Int) + 1 = ((found + 1 : Nat) : Int) by omega]
        rw [List.append_assoc] at b2
        have := ih (i + 1) n n2 u4 r3 (acc ++ (zsl v s i ++ [10])) (i + 1) (L0 ++ [(s, i)]) (found + 1) (by omega) (Nat.le_refl _) (by omega) (by omega) (by rw [List.length_append, List.length_singleton]; omega) (by omega) (zlim_fr f13 d3 (by decide) HL) (zW_fr f13 (by omega) HW) (zWr_fr d3 (by decide) (by decide) HR) (zlT_keep f13.2.2.2.2.2 hls) (by rw [f13.2.2.2.2.1]; exact hcs) (zFr_T f13 (by omega) hT) (zSrc_fr d3 (by decide) (by decide) hS) hz1 b2 d2 (fun h0 => by omega)
        rw [if_neg (by omega)] at this
        obtain ⟨st, w, u5, r5, k1, k2, k3, k4, k5, k6, k7, k8, k9⟩ := this
        refine ⟨st, w, u5, r5, k1, k2, k3, k4, k5, k6, zq_tr d3 k7, fun hh => zFr_tr f13 (k8 hh), fun hh => ⟨zFr_tr (zFr_mono f13 (by omega) (by omega) (by omega) (by omega)) (k9 hh).1, (k9 hh).2⟩⟩
    · have hzz : zl v (j + 1) i s = zl v j (i + 1) s := by rw [zl, if_neg hends]
      rw [hzz] at hz
      simp only [if_neg hends, if_pos z00, Option.bind_some, if_true, zb2_some]
      exact ih (i + 1) n n2 u r acc s L0 found (by omega) (by omega) (by omega) (by omega) (by omega) (by omega) HL HW HR hls hcs hT hS hz hH hHr hacc
