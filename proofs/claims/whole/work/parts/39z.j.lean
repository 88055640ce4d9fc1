/-! enter; the relation between two calls, whole -/
def zInv (u : ZC) (r : ZR) : Prop := zRel u r ∧ zBs u r ∧ ∃ c : Nat, cI u 6 0 = (c : Int) ∧ zPb u c ∧ zTg u c
theorem zInv_keep {u w : ZC} {r s : ZR} (a : zkC u w) (b : zkR r s) (hl : zln w s) (H : zInv u r) : zInv w s := by
  obtain ⟨h1, ⟨h2, h3⟩, c, h4, h5, h6⟩ := H
  have hT : ∀ t v, t ≠ 0 → zT u t v → zT w t v := fun t v ht hv => zT_keep (a.1 0 t (by omega)) (by rw [a.2.2.2.2.1]) (fun i => a.2.2.2.1 0 t i (by omega)) hv
  refine ⟨zRel_keep a b hl h1, ⟨hT 2 _ (by decide) h2, fun x hx => ?_⟩, c, by rw [a.1 6 0 (by omega)]; exact h4, ?_, fun k hk t ht => h6 k hk t (by rw [← a.2.2.1 4 k]; exact ht)⟩
  · obtain ⟨v, g1, g2, g3, g4⟩ := h3 x hx
    exact ⟨v, hT _ _ (by have := zbt_in x hx; omega) g1, g2, by rw [b.2.2.1 33 x (by decide)]; exact g3, fun i hi => by rw [b.2.2.1 32 _ (by decide)]; exact g4 i hi⟩
  · unfold zPb at h5 ⊢
    rw [a.2.2.1 2 0, a.2.2.1 3 0]
    exact h5
theorem inv_type (F : Nat) (hF : 20 ≤ F) (u : ZC) (r : ZR) (v : Int64) (H : zInv u r) : ∃ (a : Int) (u2 : ZC) (r2 : ZR), cShell_type F u v = some (a, u2) ∧ r_type F r v = some (a, r2) ∧ cL u2 = cL u ∧ zInv u2 r2 := by
  obtain ⟨a, u2, r2, h1, h2, h3, h4, h5⟩ := type_alike F (by omega) u r v H.1.1
  exact ⟨a, u2, r2, h1, h2, h4.2.2.2.2.2, zInv_keep h4 h5 h3 H⟩
theorem inv_wipe (F : Nat) (u : ZC) (r : ZR) (H : zInv u r) : ∃ (u2 : ZC) (r2 : ZR), cShell_wipe F u = some u2 ∧ r_wipe F r = some r2 ∧ cL u2 = cL u ∧ zInv u2 r2 := by
  obtain ⟨u2, r2, h1, h2, h3, h4, h5⟩ := wipe_alike F u r H.1.1
  exact ⟨u2, r2, h1, h2, h4.2.2.2.2.2, zInv_keep h4 h5 h3 H⟩
theorem inv_check (F : Nat) (hF : 70 ≤ F) (u : ZC) (r : ZR) (H : zInv u r) : ∃ (a : Int) (u2 : ZC) (r2 : ZR), cShell_check F u = some (a, u2) ∧ r_check F r = some (a, r2) ∧ cL u2 = cL u ∧ zInv u2 r2 := by
  obtain ⟨a, u2, r2, c1, c2, c3, c4, c5⟩ := gram_alike F hF u r H.1.1
  have hRel := zInv_keep (zfT_kC c3) (zfR_kR c4) (zln_keep c3 c4 H.1.1) H
  unfold cShell_check r_check
  rw [c1, c2]
  have hn := H.1.1.1
  rcases c5 with ha | ⟨ha, m, hT, -⟩
  · subst ha
    exact ⟨-1, u2, r2, rfl, rfl, c3.2.2.2.2.2, hRel⟩
  · subst ha
    have hm : m ≤ 64 := by
      have := hT.2.2.1
      omega
    obtain ⟨b, g1, g2⟩ := words_loop F hT hm m 0 F F 0 (by omega) (by omega) (by omega) (by omega)
    have g1' : cTokens_countWords F u2 = some b := g1
    have g2' : r_check_13 F F r2 0 0 = some (b, r2) := g2
    simp only [zb2_some, z10, if_false, not_false_iff, if_true, g1', g2', Option.bind_some]
    exact ⟨b, u2, r2, rfl, rfl, c3.2.2.2.2.2, hRel⟩
theorem inv_0 (mn mc pp : Int) (h1 : 1 ≤ mn ∧ mn ≤ 12) (h2 : 0 ≤ mc ∧ mc ≤ 160) (h3 : 8 ≤ pp ∧ pp ≤ 96) : zInv (zu0 mn mc pp) (zr0 mn mc pp) := by
  have eT : ∀ o : Nat, cI (zu0 mn mc pp) 0 o = 0 := fun o => by
    show (if o = 0 then (if 0 = 4 then mn else if 0 = 5 then mc else 0) else 0) = (0 : Int)
    split <;> rfl
  have hT : ∀ t : Nat, zT (zu0 mn mc pp) t [] := fun t => ⟨eT t, Nat.zero_le _, fun i hi => absurd hi (Nat.not_lt_zero i), fun x hx => by cases hx⟩
  refine ⟨rel_0 mn mc pp h1 h2 h3, ⟨hT 2, fun b hb => ⟨[], hT _, Nat.zero_le _, rfl, fun i hi => absurd hi (Nat.not_lt_zero i)⟩⟩, 0, rfl, ⟨fun n hn => ?_, fun d hd => ?_⟩, fun k hk t ht => ?_⟩
  · cases hn
  · cases hd
  · rcases (show k = 0 ∨ k = 1 ∨ k = 2 ∨ k = 3 ∨ k = 4 by omega) with rfl | rfl | rfl | rfl | rfl <;> cases ht
/-- no closing bracket stands alone -/
theorem zF_open {K : Nat → Int} {m : Nat} : ∀ (f i : Nat) (s x : Int), m - i = f → 0 ≤ x → zA K m i s x = true → zF qC K m i x = m := by
  intro f
  induction f with
  | zero => intro i s x hf _ _; exact zF_end (by omega)
  | succ f ih =>
    intro i s x hf hx hA
    obtain ⟨g1, g2⟩ := zA_in (by omega) hA
    have h6 : ¬ (x = 0 ∧ qC (K i) = true) := by
      rintro ⟨hx0, hq⟩
      have hk := of_decide_eq_true hq
      rw [hk] at g1
      have := znx_6 g1
      omega
    rw [zF_go (by omega) h6]
    refine ih (i + 1) _ _ (by omega) ?_ g2
    unfold znd
    split
    · omega
    · split
      · rename_i hk
        have : ¬ x = 0 := fun hh => h6 ⟨hh, by unfold qC; rw [hk]; rfl⟩
        omega
      · exact hx
/-- giving up: the directory -/
theorem giveUp_loop (F : Nat) : ∀ (j n : Nat) (r : ZR) (lv : Nat), j + 1 < n → j ≤ lv → lv < 5 → rI r 21 = (lv : Int) → ∃ x : Int, r_giveUp_5 F n r (j : Int) = some (tI (tI r 9 x) 45 100) ∧ x = if lv = 0 then (if zI (rA r 28 0) = 0 then rI r 9 else rA r 27 0) else rA r 27 0 := by
  intro j
  induction j with
  | zero =>
    intro n r lv hn hj hlv h21
    obtain ⟨n, rfl⟩ : ∃ n', n = n' + 1 := ⟨n - 1, by omega⟩
    obtain ⟨n, rfl⟩ : ∃ n', n = n' + 1 := ⟨n - 1, by omega⟩
    have hz : zix ((0 : Nat) : Int) 5 := ⟨by omega, by omega, by omega⟩
    rw [r_giveUp_5, if_neg (by decide), h21]
    by_cases h0 : lv = 0
    · subst h0
      rw [if_neg (by decide), if_pos hz, if_pos hz, if_pos rfl]
      by_cases h28 : zI (rA r 28 0) = 0
      · refine ⟨_, ?_, rfl⟩
        rw [if_pos h28, if_pos (show zI (rA r 28 ((0 : Nat) : Int).toNat) = 0 from h28)]
        simp only [Option.bind_some, reduceCtorEq, if_false]
        rw [r_giveUp_5, if_pos (by decide), tI_self]
      · refine ⟨_, ?_, rfl⟩
        rw [if_neg h28, if_neg (show ¬ zI (rA r 28 ((0 : Nat) : Int).toNat) = 0 from h28)]
        simp only [Option.bind_some, if_true]
        rw [r_giveUp_5, if_pos (by decide)]
        rfl
    · rw [if_pos (by rw [zI_lt (by omega) (by omega) (by omega) (by omega)]; omega), if_neg h0]
      refine ⟨_, ?_, rfl⟩
      simp only [Option.bind_some, if_true, if_pos hz]
      rw [r_giveUp_5, if_pos (by decide)]
      rfl
  | succ j ih =>
    intro n r lv hn hj hlv h21
    obtain ⟨n, rfl⟩ : ∃ n', n = n' + 1 := ⟨n - 1, by omega⟩
    have hz : zix ((j + 1 : Nat) : Int) 5 := ⟨by omega, by omega, by omega⟩
    have hlast : ∀ y : Int, ∃ x : Int, r_giveUp_5 F n (tI r 9 y) (((j + 1 : Nat) : Int) + (-1)) = some (tI (tI r 9 x) 45 100) ∧ x = if lv = 0 then (if zI (rA r 28 0) = 0 then rI r 9 else rA r 27 0) else rA r 27 0 := by
      intro y
      obtain ⟨x, h1, h2⟩ := ih n (tI r 9 y) lv (by omega) (by omega) hlv h21
      rw [show ((j + 1 : Nat) : Int) + (-1) = (j : Int) by omega, h1]
      refine ⟨x, by rw [tI_tI], ?_⟩
      rw [h2, if_neg (by omega), if_neg (by omega)]
      rfl
    rw [r_giveUp_5, if_neg (by rw [zI_lt0 (by omega) (by omega)]; omega)]
    have hy : ∃ y : Int, (Option.bind (Option.bind (if zI ((j + 1 : Nat) : Int) < zI (rI r 21) then some true else if zix ((j + 1 : Nat) : Int) 5 then (if zI (rA r 28 ((j + 1 : Nat) : Int).toNat) = 0 then some false else some true) else none) fun (b1 : Bool) => if b1 = true then (if zix ((j + 1 : Nat) : Int) 5 then some (tI r 9 (rA r 27 ((j + 1 : Nat) : Int).toNat)) else none) else some r) fun (u2 : ZR) => r_giveUp_5 F n u2 (((j + 1 : Nat) : Int) + (-1))) = r_giveUp_5 F n (tI r 9 y) (((j + 1 : Nat) : Int) + (-1)) := by
      by_cases h1 : zI ((j + 1 : Nat) : Int) < zI (rI r 21)
      · rw [if_pos h1]
        simp only [Option.bind_some, if_true, if_pos hz]
        exact ⟨_, rfl⟩
      · rw [if_neg h1, if_pos hz]
        by_cases h2 : zI (rA r 28 ((j + 1 : Nat) : Int).toNat) = 0
        · rw [if_pos h2]
          simp only [Option.bind_some, reduceCtorEq, if_false]
          exact ⟨rI r 9, by rw [tI_self]⟩
        · rw [if_neg h2]
          simp only [Option.bind_some, if_true, if_pos hz]
          exact ⟨_, rfl⟩
    obtain ⟨y, hy⟩ := hy
    rw [hy]
    exact hlast y
/-- the output is copied -/
theorem copyOut (F len : Nat) (hlen : len ≤ 96) : ∀ (j i n : Nat) (r : ZR), i + j = len → j < n → rI r 46 = (len : Int) → ∃ r2, r_enter_80 F n r (i : Int) = some (rI r 45, r2) ∧ (∀ y, y < len → rA r2 47 y = if y < i then rA r 47 y else rA r 30 y) ∧ zq [] [47] r r2 := by
  intro j
  induction j with
  | zero =>
    intro i n r hi hn h46
    obtain ⟨n, rfl⟩ : ∃ n', n = n' + 1 := ⟨n - 1, by omega⟩
    refine ⟨r, ?_, fun y hy => by rw [if_pos (by omega)], zq_rf _ _ _⟩
    rw [r_enter_80, h46, if_pos (by rw [zI_le (by omega) (by omega) (by omega) (by omega)]; omega)]
  | succ j ih =>
    intro i n r hi hn h46
    obtain ⟨n, rfl⟩ : ∃ n', n = n' + 1 := ⟨n - 1, by omega⟩
    obtain ⟨r2, h1, h2, h3⟩ := ih (i + 1) n (tA r 47 i (rA r 30 i)) (by omega) (by omega) h46
    refine ⟨r2, ?_, fun y hy => ?_, zq_tr (zq_A [] [47] r 47 i _ (by decide)) h3⟩
    · rw [r_enter_80, h46, if_neg (by rw [zI_le (by omega) (by omega) (by omega) (by omega)]; omega), if_pos (show zix (i : Int) 480 from ⟨by omega, by omega, by omega⟩), if_pos (show zix (i : Int) 96 from ⟨by omega, by omega, by omega⟩), Int.toNat_natCast, show (i : Int) + 1 = ((i + 1 : Nat) : Int) by omega]
      exact h1
    · rw [h2 y hy]
      have e1 : rA (tA r 47 i (rA r 30 i)) 47 y = if y = i then rA r 30 i else rA r 47 y := by
        show (if 47 = 47 ∧ y = i then rA r 30 i else rA r 47 y) = _
        by_cases hh : y = i
        · rw [if_pos ⟨rfl, hh⟩, if_pos hh]
        · rw [if_neg (fun h => hh h.2), if_neg hh]
      have e2 : rA (tA r 47 i (rA r 30 i)) 30 y = rA r 30 y := rfl
      rw [e1, e2]
      by_cases a1 : y < i
      · rw [if_pos (by omega), if_neg (by omega), if_pos a1]
      · rw [if_neg a1]
        by_cases a2 : y = i
        · rw [if_pos (by omega), if_pos a2, a2]
        · rw [if_neg (by omega)]
/-- what stands when a line has run -/
def zEn (u : ZC) (r : ZR) (c h : Nat) : Prop := (zTree u r c h ∧ (c : Int) ≤ cI u 4 0 ∧ zlim u r) ∧ (cI u 7 0 = zsum r 0 13 ∧ 0 ≤ cI u 7 0 ∧ cI u 7 0 ≤ cI u 5 0) ∧ (rI r 45 = cI u 8 0 ∧ 0 ≤ cI u 8 0 ∧ cI u 8 0 ≤ 127) ∧ rI r 48 = cI u 9 0 ∧ zBs u r ∧ (zPb u c ∧ zTg u c) ∧ (cN u 0 = 64 ∧ rI r 10 = 0) ∧ zPt u r 0
theorem zEn_of {u : ZC} {r : ZR} {m n c h k : Nat} {K L A B : Nat → Int} (H : zRn u r m n K L A B c h k) : zEn u r c h := ⟨H.1, H.2.1, H.2.2.1, H.2.2.2.1, H.2.2.2.2.1, H.2.2.2.2.2.1, H.2.2.2.2.2.2.1.2.2.1, H.2.2.2.2.2.2.2.2 0 (Nat.zero_le _)⟩
theorem zEn_fl {u : ZC} {r : ZR} {c h : Nat} (H : zEn (sI u 8 0 0) (tI (tI r 21 0) 45 0) c h) : zEn (sI u 8 0 100) (tI r 45 100) c h := by
  obtain ⟨⟨h1, h2, h3⟩, h4, -, h6, h7, ⟨h8, h9⟩, h10, w, h11, h12, h13⟩ := H
  have hs : zsum (tI r 45 100) 0 13 = zsum (tI (tI r 21 0) 45 0) 0 13 := zsum_eq (fun _ => rfl) (fun _ => rfl) 13 0
  refine ⟨⟨h1, h2, h3⟩, ?_, ⟨rfl, show (0 : Int) ≤ 100 by decide, show (100 : Int) ≤ 127 by decide⟩, h6, h7, ⟨h8, h9⟩, h10, w, h11, h12, h13⟩
  rw [hs]
  exact h4
/-- the end of enter on both sides -/
theorem enter_end (F : Nat) (hF : 200 ≤ F) {u : ZC} {r : ZR} {c h : Nat} (H : zEn u r c h) : ∃ u2 r2, cText_clear F u 0 = some u2 ∧ r_enter_80 F F (tI r 46 (rA r 31 0)) 0 = some (cI u2 8 0, r2) ∧ zInv u2 r2 := by
  obtain ⟨⟨h1, h2, h3⟩, h4, h5, h6, h7, ⟨h8, h9⟩, h10, w, h11, h12, h13⟩ := H
  obtain ⟨u2, a1, a2, a3⟩ := clear_is F (u := u) (t := 0) (Or.inl (by decide))
  have hcap := (h3.2.2.2.2.2 0 (by decide)).1
  have hl := h11.2.1
  have hc2 := h3.2.2.1
  have hcN : cN u 3 ≤ 96 := by
    have : ((cN u (3 + 4 * 0) : Nat) : Int) = rI r 2 := hcap
    rw [show 3 + 4 * 0 = 3 from rfl] at this
    omega
  have hl3 : w.length ≤ cN u 3 := hl
  obtain ⟨r2, b1, b2, b3⟩ := copyOut F w.length (by omega) w.length 0 F (tI r 46 (rA r 31 0)) (by omega) (by omega) (by rw [← h12]; rfl)
  have hq : zq [46] [47] r r2 := zq_tr (zq_I [46] [47] r 46 _ (by decide)) (zq_mono b3 (by decide) (by decide))
  have e8 : cI u2 8 0 = cI u 8 0 := a3.1 8 0 (by omega) (by omega)
  have e45 : rI (tI r 46 (rA r 31 0)) 45 = cI u2 8 0 := by rw [e8, ← h5.1]; rfl
  have hz0 : cI u2 0 0 = 0 := (a2.2.1 (Nat.zero_le _)).2.1
  have e3 : cI u2 0 3 = (w.length : Int) := by rw [a3.1 0 3 (by omega) (by omega)]; exact h11.1
  refine ⟨u2, r2, a1, ?_, ⟨⟨⟨by rw [hz0]; decide, by rw [hz0]; decide⟩, ?_, ?_, fun i hi => ?_⟩, zlim_fr a3 hq (by decide) h3, ⟨c, h, zTree_fr a3 (Or.inl (by decide)) (Or.inl (by decide)) hq (by decide) (by decide) h1, ?_⟩, ⟨⟨?_, ?_, ?_⟩, ?_, fun i hi => ?_⟩, ?_, ?_, ?_, ?_, ?_⟩, zBs_fr a3 ⟨by decide, fun b hb => by have := (zbt_in b hb).1; omega⟩ ⟨by decide, fun b hb => by have := (zbt_in b hb).1; omega⟩ hq (by decide) h7, c, ?_, zPb_fr a3 h8, zTg_fr a3 h9⟩
  · rw [← e45]
    exact b1
  · rw [hz0, hq.1 10 (by decide)]
    exact h10.2
  · rw [a3.2.2.2.2.1]
    exact h10.1
  · rw [hz0] at hi
    omega
  · rw [a3.1 4 0 (by omega) (by omega)]
    exact h2
  · rw [e3]; omega
  · rw [e3]; omega
  · rw [e3, a3.2.2.2.2.1]; omega
  · rw [b3.1 46 (by decide), e3]
    exact h12
  · rw [e3] at hi
    have hi' : i < w.length := by omega
    rw [a3.2.2.2.1 0 3 i (by omega) (by omega), b2 i hi', if_neg (by omega)]
    have g1 : cA u 0 3 i = w.getD i 0 := h11.2.2.1 i hi'
    have g2 : rA (tI r 46 (rA r 31 0)) 30 i = w.getD i 0 := by
      have := h13 i hi'
      rw [show 96 * 0 + i = i by omega] at this
      exact this
    rw [g1, g2]
  · rw [a3.1 7 0 (by omega) (by omega), zsum_eq (fun i => hq.2.2.1 3 i (by decide)) (fun i => hq.2.2.1 7 i (by decide)) 13 0]
    exact h4.1
  · rw [a3.1 7 0 (by omega) (by omega), a3.1 5 0 (by omega) (by omega)]
    exact h4.2.2
  · rw [e8, hq.1 45 (by decide)]
    exact h5.1
  · rw [e8]
    exact h5.2
  · rw [hq.1 48 (by decide), a3.1 9 0 (by omega) (by omega)]
    exact h6
  · rw [a3.1 6 0 (by omega) (by omega)]
    exact h1.2.1
/-- where a line begins to run -/
theorem run_start (F : Nat) {u : ZC} {r : ZR} {m n : Nat} (H : zInv u r) (hT : zTk u r m n) (hn : cI u 0 0 = (n : Int)) :
    ∃ u1 u2 c h, cRunner_forget F u = some (sI u1 9 0 0) ∧ cText_clear F (sI u1 9 0 0) 3 = some u2 ∧ cI (sI u1 9 0 0) 2 0 = (m : Int) ∧ zSt m n (cA u 1 0) (cA u 0 0) (cA u 2 0) (cA u 3 0) ∧ zRn u2 (tA (tA (tI (tI (tI (tI (tI r 10 0) 46 0) 48 0) 21 0) 22 0) 23 0 (-1)) 31 0 0) m n (cA u 1 0) (cA u 0 0) (cA u 2 0) (cA u 3 0) c h 0 := by
  obtain ⟨⟨⟨⟨l0, l1⟩, l2, l3, l4⟩, hlim, ⟨c, h, hTree, hc4⟩, hout, htot, htot2, hstat, hstat2, hran⟩, HB, c', hc', HP, HG⟩ := H
  have hcc : c' = c := by have := hTree.2.1; omega
  subst hcc
  obtain ⟨t1, t2, t3, t4, t5⟩ := hT
  obtain ⟨u1, a1, a2, a3⟩ := clear_is F (u := u) (t := 3) (Or.inl (by decide))
  obtain ⟨u2, b1, b2, b3⟩ := clear_is F (u := sI u1 9 0 0) (t := 3) (Or.inl (by decide))
  obtain ⟨rr, hrr⟩ : ∃ rr, (tA (tA (tI (tI (tI (tI (tI r 10 0) 46 0) 48 0) 21 0) 22 0) 23 0 (-1)) 31 0 0) = rr := ⟨_, rfl⟩
  have hq : zq [10, 46, 48, 21, 22] [23, 31] r rr := by
    rw [← hrr]
    exact zq_tr (zq_tr (zq_tr (zq_tr (zq_tr (zq_tr (zq_I _ _ r 10 _ (by decide)) (zq_I _ _ _ 46 _ (by decide))) (zq_I _ _ _ 48 _ (by decide))) (zq_I _ _ _ 21 _ (by decide))) (zq_I _ _ _ 22 _ (by decide))) (zq_A _ _ _ 23 _ _ (by decide))) (zq_A _ _ _ 31 _ _ (by decide))
  have hb3 : ∀ y, y < 10 → 3 ≠ zbt y := fun y hy => by have := (zbt_in y hy).1; omega
  -- behind forget
  have q1 : zTree u1 rr c' h := zTree_fr a3 (Or.inl (by decide)) (Or.inl (by decide)) hq (by decide) (by decide) hTree
  have q2 : zlim u1 rr := zlim_fr a3 hq (by decide) hlim
  have q3 : zBs u1 rr := zBs_fr a3 ⟨by decide, hb3⟩ ⟨by decide, hb3⟩ hq (by decide) HB
  have q5 : zPb u1 c' := zPb_fr a3 HP
  have q6 : zTg u1 c' := zTg_fr a3 HG
  have s1 : zTree (sI u1 9 0 0) rr c' h := q1
  have s2 : zlim (sI u1 9 0 0) rr := q2
  have s3 : zBs (sI u1 9 0 0) rr := q3
  have s5 : zPb (sI u1 9 0 0) c' := q5
  have s6 : zTg (sI u1 9 0 0) c' := q6
  have hr := zq_rf [] [] rr
  have p1 : zTree u2 rr c' h := zTree_fr b3 (Or.inl (by decide)) (Or.inl (by decide)) hr (by decide) (by decide) s1
  have p2 : zlim u2 rr := zlim_fr b3 hr (by decide) s2
  have p3 : zBs u2 rr := zBs_fr b3 ⟨by decide, hb3⟩ ⟨by decide, hb3⟩ hr (by decide) s3
  have p5 : zPb u2 c' := zPb_fr b3 s5
  have p6 : zTg u2 c' := zTg_fr b3 s6
  have eI : ∀ f, ¬ f = 9 → cI u2 f 0 = cI u f 0 := fun f hf => by
    rw [b3.1 f 0 (by omega) (by omega)]
    show (if f = 9 ∧ 0 = 0 then (0 : Int) else cI u1 f 0) = _
    rw [if_neg (fun hh => hf hh.1), a3.1 f 0 (by omega) (by omega)]
  have eA : ∀ f i, cA u2 f 0 i = cA u f 0 i := fun f i => by
    rw [b3.2.2.2.1 f 0 i (by omega) (by omega)]
    show cA u1 f 0 i = _
    rw [a3.2.2.2.1 f 0 i (by omega) (by omega)]
  have eN : cN u2 = cN u := by
    rw [b3.2.2.2.2.1]
    show cN u1 = cN u
    rw [a3.2.2.2.2.1]
  rw [hrr]
  refine ⟨u1, u2, c', h, ?_, b1, ?_, ⟨t3, by omega, fun j hj => (t4 j hj).1, fun j hj => ?_, t5, fun i hi => (l4 i (by omega)).2⟩, ⟨p1, by rw [eI 4 (by decide)]; exact hc4, p2⟩, ?_, ?_, ?_, p3, ⟨p5, p6⟩, ⟨?_, ?_, ⟨by rw [eN]; exact l3, by rw [← hrr]; rfl⟩, fun j hj => ?_, fun i hi => ?_⟩, ⟨by decide, by rw [← hrr]; rfl⟩, fun j hj => ?_⟩
  · unfold cRunner_forget
    rw [if_pos (show zix 0 5 from ⟨by omega, by omega, by omega⟩), show 3 + 4 * 0 = 3 from rfl, a1]
    rfl
  · show cI u1 2 0 = _
    rw [a3.1 2 0 (by omega) (by omega)]
    exact t1
  · obtain ⟨-, -, a, b, g1, g2, g3, g4, g5, g6⟩ := t4 j hj
    exact ⟨a, b, g1, g3, g4, g5⟩
  · rw [eI 7 (by decide), eI 5 (by decide), zsum_eq (fun i => hq.2.2.1 3 i (by decide)) (fun i => hq.2.2.1 7 i (by decide)) 13 0]
    refine ⟨htot, ?_, htot2⟩
    rw [htot]
    exact zsum_nn hTree hlim.2.1.1 13 0 rfl
  · rw [eI 8 (by decide), hq.1 45 (by decide)]
    exact ⟨hstat, hstat2⟩
  · rw [← hrr, b3.1 9 0 (by omega) (by omega)]
    rfl
  · rw [eI 2 (by decide)]
    exact t1
  · rw [hq.1 12 (by decide)]
    exact t2
  · obtain ⟨-, g0, a, b, g1, g2, g3, g4, g5, g6⟩ := t4 j hj
    rw [eA, eA, eA, hq.2.2.1 13 j (by decide), hq.2.2.1 14 j (by decide), hq.2.2.1 15 j (by decide)]
    exact ⟨rfl, g0, rfl, by rw [g2, g1], rfl, fun hk => by rw [g6 hk, g3]⟩
  · rw [eA, hq.2.2.1 11 i (by decide)]
    exact ⟨rfl, (l4 i (by omega)).1.symm⟩
  · have hj0 : j = 0 := by omega
    subst hj0
    refine ⟨[], (b2.2.1 (Nat.zero_le _)).2, ?_, fun i hi => absurd hi (Nat.not_lt_zero i)⟩
    rw [← hrr]
    rfl
theorem inv_enter (F : Nat) (hF : 500 ≤ F) (u : ZC) (r : ZR) (H : zInv u r) : ∃ (a : Int) (u2 : ZC) (r2 : ZR), cShell_enter F u = some (a, u2) ∧ r_enter F r = some (a, r2) ∧ zInv u2 r2 := by
  obtain ⟨a, v, w, g1, g2, g3, g4, g5⟩ := gram_alike F (by omega) u r H.1.1
  have HI := zInv_keep (zfT_kC g3) (zfR_kR g4) (zln_keep g3 g4 H.1.1) H
  have hl := H.1.1.1
  have hl0 : cI v 0 0 = cI u 0 0 := g3.1 0 0 (by omega)
  unfold cShell_enter r_enter
  rw [g1, g2]
  simp only [zb2_some]
  rcases g5 with ha | ⟨ha, m, hT, hA⟩
  · -- no sentence
    subst ha
    rw [if_neg (not_not_intro z00)]
    obtain ⟨⟨⟨⟨l0, l1⟩, l2, l3, l4⟩, hlim, ⟨c, h, hTree, hc4⟩, hout, htot, htot2, hstat, hstat2, hran⟩, HB, c', hc', HP, HG⟩ := HI
    obtain ⟨u1, a1, a2, a3⟩ := clear_is F (u := v) (t := 3) (Or.inl (by decide))
    obtain ⟨u2, b1, b2, b3⟩ := clear_is F (u := sI u1 9 0 0) (t := 0) (Or.inl (by decide))
    have hf : cRunner_forget F v = some (sI u1 9 0 0) := by
      unfold cRunner_forget
      rw [if_pos (show zix 0 5 from ⟨by omega, by omega, by omega⟩), show 3 + 4 * 0 = 3 from rfl, a1]
      rfl
    rw [hf]
    simp only [Option.bind_some, if_pos z00, b1]
    have hq : zq [10, 46, 48] [] w (tI (tI (tI w 10 0) 46 0) 48 0) := zq_tr (zq_tr (zq_I _ _ w 10 _ (by decide)) (zq_I _ _ _ 46 _ (by decide))) (zq_I _ _ _ 48 _ (by decide))
    obtain ⟨rr, hrr⟩ : ∃ rr, tI (tI (tI w 10 0) 46 0) 48 0 = rr := ⟨_, rfl⟩
    have r10 : rI rr 10 = 0 := by rw [← hrr]; rfl
    have r46 : rI rr 46 = 0 := by rw [← hrr]; rfl
    have r48 : rI rr 48 = 0 := by rw [← hrr]; rfl
    rw [hrr] at hq ⊢
    have hb3 : ∀ y, y < 10 → 3 ≠ zbt y := fun y hy => by have := (zbt_in y hy).1; omega
    have hb0 : ∀ y, y < 10 → 0 ≠ zbt y := fun y hy => by have := (zbt_in y hy).1; omega
    have q1 : zTree u1 rr c h := zTree_fr a3 (Or.inl (by decide)) (Or.inl (by decide)) hq (by decide) (by decide) hTree
    have q2 : zlim u1 rr := zlim_fr a3 hq (by decide) hlim
    have q3 : zBs u1 rr := zBs_fr a3 ⟨by decide, hb3⟩ ⟨by decide, hb3⟩ hq (by decide) HB
    have q5 : zPb u1 c' := zPb_fr a3 HP
    have q6 : zTg u1 c' := zTg_fr a3 HG
    have s1 : zTree (sI u1 9 0 0) rr c h := q1
    have s2 : zlim (sI u1 9 0 0) rr := q2
    have s3 : zBs (sI u1 9 0 0) rr := q3
    have s5 : zPb (sI u1 9 0 0) c' := q5
    have s6 : zTg (sI u1 9 0 0) c' := q6
    have hr := zq_rf [] [] rr
    have eI : ∀ f, 1 < f → ¬ f = 9 → cI u2 f 0 = cI v f 0 := fun f h1 hf => by
      rw [b3.1 f 0 (by omega) (by omega)]
      show (if f = 9 ∧ 0 = 0 then (0 : Int) else cI u1 f 0) = _
      rw [if_neg (fun hh => hf hh.1), a3.1 f 0 (by omega) (by omega)]
    have e9 : cI u2 9 0 = 0 := by
      rw [b3.1 9 0 (by omega) (by omega)]
      rfl
    have eN : cN u2 = cN v := by
      rw [b3.2.2.2.2.1]
      show cN u1 = cN v
      rw [a3.2.2.2.2.1]
    have z0 : cI u2 0 0 = 0 := (b2.2.1 (Nat.zero_le _)).2.1
    have z3 : cI u2 0 3 = 0 := by
      rw [b3.1 0 3 (by omega) (by omega)]
      exact (a2.2.1 (Nat.zero_le _)).2.1
    refine ⟨-1, u2, rr, rfl, rfl, ⟨⟨⟨by rw [z0]; decide, by rw [z0]; decide⟩, by rw [z0, r10], by rw [eN]; exact l3, fun i hi => ?_⟩, zlim_fr b3 hr (by decide) s2, ⟨c, h, zTree_fr b3 (Or.inl (by decide)) (Or.inl (by decide)) hr (by decide) (by decide) s1, by rw [eI 4 (by decide) (by decide)]; exact hc4⟩, ⟨⟨by rw [z3]; decide, by rw [z3]; decide, by rw [z3]; omega⟩, by rw [z3, r46], fun i hi => ?_⟩, ?_, ?_, ?_, ?_, ?_⟩, zBs_fr b3 ⟨by decide, hb0⟩ ⟨by decide, hb0⟩ hr (by decide) s3, c', by rw [eI 6 (by decide) (by decide)]; exact hc', zPb_fr b3 s5, zTg_fr b3 s6⟩
    · rw [z0] at hi
      omega
    · rw [z3] at hi
      omega
    · rw [eI 7 (by decide) (by decide), zsum_eq (fun i => hq.2.2.1 3 i (by decide)) (fun i => hq.2.2.1 7 i (by decide)) 13 0]
      exact htot
    · rw [eI 7 (by decide) (by decide), eI 5 (by decide) (by decide)]
      exact htot2
    · rw [eI 8 (by decide) (by decide), hq.1 45 (by decide)]
      exact hstat
    · rw [eI 8 (by decide) (by decide)]
      exact hstat2
    · rw [e9, r48]
  · subst ha
    rw [if_pos (show ¬ zI 1 = 0 by decide)]
    have hn : cI v 0 0 = ((cI u 0 0).toNat : Int) := by rw [hl0]; omega
    obtain ⟨u1, u2, c, h, f1, f2, f3, HS, HR⟩ := run_start F HI hT hn
    rw [f1]
    simp only [Option.bind_some, f3, if_pos (show zix 0 5 from ⟨by omega, by omega, by omega⟩), if_neg z10]
    have m64 : m ≤ 64 := by
      have := hT.2.2.1
      omega
    have h12 : rI (tA (tA (tI (tI (tI (tI (tI w 10 0) 46 0) 48 0) 21 0) 22 0) 23 0 (-1)) 31 0 0) 12 = (m : Int) := hT.2.1
    rw [h12]
    have hrl : cRunner_runList F 6 (sI u1 9 0 0) 0 (m : Int) 0 2 = cRunner_runList_25 F (cRunner_runList F 5) F u2 (m : Int) 0 2 0 0 := by
      rw [cRunner_runList, if_pos (by decide), if_pos (show zix 0 5 from ⟨by omega, by omega, by omega⟩), show 3 + 4 * (0 : Int).toNat = 3 from rfl, f2]
      rfl
    rw [hrl]
    obtain ⟨rr, hrr⟩ : ∃ rr, tA (tA (tI (tI (tI (tI (tI w 10 0) 46 0) 48 0) 21 0) 22 0) 23 0 (-1)) 31 0 0 = rr := ⟨_, rfl⟩
    have h22 : rI rr 22 = ((0 : Nat) : Int) := by rw [← hrr]; rfl
    have h23 : rA rr 23 0 = -1 := by rw [← hrr]; rfl
    rw [hrr] at HR ⊢
    by_cases hm : m = 0
    · -- an empty line
      subst hm
      rw [if_pos (by decide)]
      have hr25 : cRunner_runList_25 F (cRunner_runList F 5) F u2 ((0 : Nat) : Int) 0 2 0 0 = some (1, u2) := by
        obtain ⟨F', rfl⟩ : ∃ n', F = n' + 1 := ⟨F - 1, by omega⟩
        rw [cRunner_runList_25, if_pos (by decide)]
      rw [hr25]
      simp only [zb2_some, Option.bind_some, if_pos z10]
      obtain ⟨u3, r3, e1, e2, e3⟩ := enter_end F (by omega) (zEn_of HR)
      rw [e1, e2]
      exact ⟨_, u3, r3, rfl, rfl, e3⟩
    · have hA := hA.resolve_left hm
      have hopen := zF_open (K := cA v 1 0) (m := m) (m - 0) 0 0 0 rfl (Int.le_refl _) hA
      obtain ⟨b, c2, u3, r3, x1, x2, x3, x4, x5, x6⟩ := list_sim F hF HS 4 0 rfl u2 rr c h 0 2 F 0 HR h22 (by omega) (Or.inl ⟨rfl, h23⟩) hA (Or.inl rfl) rfl (Nat.le_refl _)
      rw [hopen] at x1 x6
      have x1' : cRunner_runList_25 F (cRunner_runList F 5) F u2 (m : Int) 0 2 0 0 = some (b, u3) := x1
      have hex : r_execute F rr = r_execute_6 F F (zSP rr (cA v 1 0) m 0 0) 0 := by
        unfold r_execute
        rw [(startPipe_is F (by omega) HS HR 0 (by omega) h22).1]
        rfl
      rw [if_neg (by rw [zI_le0 (by omega) (by omega)]; omega), x1', hex]
      simp only [zb2_some]
      rcases x6 with ⟨y1, y2, y3⟩ | ⟨y1, h2, n2, N2, t2, v2, y2, y3, y4, y5, y6, y7⟩
      · -- it gave up
        have y2' : r_execute_6 F F (zSP rr (cA v 1 0) m 0 0) 0 = some (0, r3) := y2
        obtain ⟨c5, h5, lv, z1, z2, z3, z4, z5, z6⟩ := y3
        obtain ⟨x, w1, w2⟩ := giveUp_loop F lv F r3 lv (by omega) (Nat.le_refl _) z5 z3
        have hx : x = (h5 : Int) := by
          rw [w2, z6]
        have hgu : r_giveUp F r3 = some (tI (tI r3 9 (h5 : Int)) 45 100) := by
          unfold r_giveUp
          rw [z3, w1, hx]
        rw [y1, y2']
        simp only [zb2_some, if_neg (not_not_intro z00), hgu, Option.bind_some]
        obtain ⟨u4, r4, e1, e2, e3⟩ := enter_end F (by omega) (zEn_fl (zEn_of z2))
        rw [e1, e2]
        exact ⟨_, u4, r4, rfl, rfl, e3⟩
      · have y2' : r_execute_6 F F (zSP rr (cA v 1 0) m 0 0) 0 = some (1, r3) := by
          obtain ⟨m64', k2', k12', kK', kR'⟩ := zTs_K HS y3.2.2.2.2.2.2.1
          obtain ⟨N2', hN2'⟩ : ∃ N', N2 = N' + 1 := ⟨N2 - 1, by omega⟩
          rw [hN2', aft_end F m64' k12' kR' n2 N2' (t2 : Int) v2 y4 (by omega)] at y2
          exact y2
        rw [y1, y2']
        simp only [zb2_some, if_pos z10, Option.bind_some]
        obtain ⟨u4, r4, e1, e2, e3⟩ := enter_end F (by omega) (zEn_of y3)
        rw [e1, e2]
        exact ⟨_, u4, r4, rfl, rfl, e3⟩
