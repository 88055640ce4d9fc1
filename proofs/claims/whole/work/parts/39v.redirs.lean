/-! all redirections of a command -/
theorem ckat {F : Nat} {u : ZC} {m : Nat} {K : Nat → Int} (hm64 : m ≤ 64) (h2 : cI u 2 0 = (m : Int)) (hK : ∀ j, j < m → cA u 1 0 j = K j) (i : Nat) (hi : i ≤ 100) : cTokens_kindAt F u (i : Int) = some (zkt K m i) := by
  unfold cTokens_kindAt zkt
  rw [h2, if_neg (by rw [zI_lt0 (by omega) (by omega)]; omega)]
  by_cases h : i < m
  · rw [if_neg (by rw [zI_le (by omega) (by omega) (by omega) (by omega)]; omega), if_pos h]
    simp only [Option.bind_some, reduceCtorEq, if_false, if_pos (show zix (i : Int) 64 from ⟨by omega, by omega, by omega⟩), Int.toNat_natCast, hK i h]
  · rw [if_pos (by rw [zI_le (by omega) (by omega) (by omega) (by omega)]; omega), if_neg h]
    rfl
theorem cisred {F : Nat} {u : ZC} {m : Nat} {K : Nat → Int} (hm64 : m ≤ 64) (h2 : cI u 2 0 = (m : Int)) (hK : ∀ j, j < m → cA u 1 0 j = K j ∧ 0 ≤ K j ∧ K j ≤ 10) (i : Nat) (hi : i ≤ 100) : cTokens_isRedirection F u (i : Int) = some (zB (decide (i < m ∧ 7 ≤ K i ∧ K i ≤ 9))) := by
  unfold cTokens_isRedirection
  rw [h2, if_neg (by rw [zI_lt0 (by omega) (by omega)]; omega)]
  by_cases h : i < m
  · have hk := hK i h
    rw [if_neg (by rw [zI_le (by omega) (by omega) (by omega) (by omega)]; omega), if_pos (show zix (i : Int) 64 from ⟨by omega, by omega, by omega⟩), Int.toNat_natCast, hk.1]
    by_cases h7 : K i < 7
    · rw [if_pos (by rw [zI_lt (by omega) (by omega) (by omega) (by omega)]; omega), decide_eq_false (by omega)]
      rfl
    · rw [if_neg (by rw [zI_lt (by omega) (by omega) (by omega) (by omega)]; omega)]
      by_cases h9 : 9 < K i
      · rw [if_pos (by rw [zI_lt (by omega) (by omega) (by omega) (by omega)]; omega), decide_eq_false (by omega)]
        rfl
      · rw [if_neg (by rw [zI_lt (by omega) (by omega) (by omega) (by omega)]; omega), decide_eq_true ⟨h, by omega, by omega⟩]
        rfl
  · rw [if_pos (by rw [zI_le (by omega) (by omega) (by omega) (by omega)]; omega), decide_eq_false (fun hh => h hh.1)]
    rfl
theorem rredir {F : Nat} {r : ZR} {k : Int} (hk : 0 ≤ k ∧ k ≤ 10) : r_redirects F r (zrk k) = some (zB (decide (7 ≤ k ∧ k ≤ 9))) := by
  have hk' : k = 0 ∨ k = 1 ∨ k = 2 ∨ k = 3 ∨ k = 4 ∨ k = 5 ∨ k = 6 ∨ k = 7 ∨ k = 8 ∨ k = 9 ∨ k = 10 := by omega
  rcases hk' with rfl | rfl | rfl | rfl | rfl | rfl | rfl | rfl | rfl | rfl | rfl <;> rfl
theorem zTs_K {u : ZC} {r : ZR} {m n : Nat} {K L A B : Nat → Int} (HS : zSt m n K L A B) (H : zTs u r m n K L A B) : m ≤ 64 ∧ cI u 2 0 = (m : Int) ∧ rI r 12 = (m : Int) ∧ (∀ j, j < m → cA u 1 0 j = K j ∧ 0 ≤ K j ∧ K j ≤ 10) ∧ (∀ j, j < m → (0 ≤ K j ∧ K j ≤ 10) ∧ rA r 13 j = zrk (K j)) := by
  have h1 := HS.1
  have h2 := HS.2.1
  exact ⟨by omega, H.1, H.2.1, fun j hj => ⟨(H.2.2.2.1 j hj).1, HS.2.2.1 j hj⟩, fun j hj => ⟨HS.2.2.1 j hj, (H.2.2.2.1 j hj).2.1⟩⟩
/-- what a redirection leaves as it was, of the reference's levels -/
def zRk (k : Nat) (r s : ZR) : Prop := zq [16, 19, 42, 43, 44] [3, 4, 5, 6, 7, 17, 18, 20, 24, 26, 32, 33] r s ∧ ∀ i, i ≠ k → rA s 24 i = rA r 24 i ∧ rA s 26 i = rA r 26 i
theorem zRk_rf (k : Nat) (r : ZR) : zRk k r r := ⟨zq_rf _ _ r, fun _ _ => ⟨rfl, rfl⟩⟩
theorem zRk_tr {k : Nat} {u v w : ZR} (a : zRk k u v) (b : zRk k v w) : zRk k u w := ⟨zq_tr a.1 b.1, fun i hi => ⟨(b.2 i hi).1.trans (a.2 i hi).1, (b.2 i hi).2.trans (a.2 i hi).2⟩⟩
theorem zRk_lk {k : Nat} {r s : ZR} (a : zRk k r s) : zLk k r s := by
  intro f h1 h2 j hj
  have : f = 23 ∨ f = 24 ∨ f = 25 ∨ f = 26 ∨ f = 27 ∨ f = 28 ∨ f = 29 := by omega
  rcases this with rfl | rfl | rfl | rfl | rfl | rfl | rfl
  · exact a.1.2.2.1 23 j (by decide)
  · exact (a.2 j (by omega)).1
  · exact a.1.2.2.1 25 j (by decide)
  · exact (a.2 j (by omega)).2
  · exact a.1.2.2.1 27 j (by decide)
  · exact a.1.2.2.1 28 j (by decide)
  · exact a.1.2.2.1 29 j (by decide)
/-- one redirection on both sides -/
theorem red1 (F : Nat) (hF : 200 ≤ F) {u : ZC} {r : ZR} {m n c h k inp : Nat} {K L A B : Nat → Int} (HS : zSt m n K L A B) (H : zRn u r m n K L A B c h k) (HV : zLv u r c k inp) (i : Nat) (hi : i + 1 < m) (hk : 7 ≤ K i ∧ K i ≤ 9) (hk1 : K (i + 1) = 10) :
    ∃ (st st2 : Int) (c2 : Nat) (u2 : ZC) (r2 : ZR), (Option.bind (cWords_clear F u) fun (u3 : ZC) => Option.bind (cWords_add F u3 ((i : Int) + 1) (cI u3 8 0)) fun (u4 : ZC) => zb2 (cTree_follow F u4 0) fun (p5 : Option Nat) (u6 : ZC) => Option.bind (cTokens_kindAt F u6 (i : Int)) fun (p7 : Int) => zb2 (if ¬ zI p7 = zI 7 then (Option.bind (cTokens_kindAt F u6 (i : Int)) fun (p8 : Int) => Option.bind (if ¬ zI p8 = zI 8 then some (0 : Int) else some 1) fun (x9 : Int) => if k < 5 then (zb2 (cRunner_redirectOutput F u6 k x9) fun (p10 : Int) (u11 : ZC) => some (p10, u11)) else none) else zb2 (cRunner_redirectInput F u6 k) fun (p12 : Int) (u13 : ZC) => some (p12, u13)) fun (x14 : Int) (u15 : ZC) => some (x14, u15)) = some (st, u2) ∧ r_redirect F r (zrk (K i)) ((i : Int) + 1) = some (st2, r2) ∧ ((st2 = st ∧ (st = 0 ∨ st = 1)) ∨ (st = 100 ∧ st2 = -9)) ∧ zRn u2 r2 m n K L A B c2 h k ∧ c ≤ c2 ∧ zLv u2 r2 c2 k inp ∧ zLo k u u2 ∧ zT4 u u2 (4 + 4 * k) ∧ zRk k r r2 ∧ ∀ y, y ≤ c → cP u2 6 y = cP u 6 y := by
  have hk5 := H.2.2.2.2.2.2.2.1.1
  rw [show (i : Int) + 1 = ((i + 1 : Nat) : Int) by omega]
  obtain ⟨p, u3, u4, u6, r1, r6, a1, a2, a3, a4, a5, a6, a7, a8, a9⟩ := red_follow F (by omega) HS H (i + 1) hi hk1
  obtain ⟨m64, k2, k12, kK, kR⟩ := zTs_K HS a6.2.2.2.2.2.2.1
  have hkat : cTokens_kindAt F u6 (i : Int) = some (K i) := by
    rw [ckat (K := K) m64 k2 (fun j hj => (kK j hj).1) i (by omega)]
    unfold zkt
    rw [if_pos (by omega)]
  have HV6 : zLv u6 r6 c k inp := by
    refine ⟨?_, ?_⟩
    · rw [a8.1 11 k (by omega) (by omega), a9.2.2.1 24 k (by decide)]
      exact HV.1
    · rw [a8.2.2.1 4 k (by omega), a9.2.2.1 26 k (by decide)]
      rcases HV.2 with hv | ⟨y, y1, y2, y3, y4, y5⟩
      · exact Or.inl hv
      · exact Or.inr ⟨y, y1, y2, y3, y4, (a8.2.2.1 6 y (by omega)).trans y5⟩
  have hlo6 : zLo k u u6 := zLo_fr a8 (fun j hj => by omega)
  have ht46 : zT4 u u6 (4 + 4 * k) := zT4_fr a8 (by omega)
  have hrk6 : zRk k r r6 := ⟨zq_mono a9 (by decide) (by decide), fun j _ => ⟨a9.2.2.1 24 j (by decide), a9.2.2.1 26 j (by decide)⟩⟩
  unfold r_redirect
  rw [a1, a4]
  simp only [Option.bind_some]
  rw [a2, a5]
  simp only [Option.bind_some]
  rw [a3]
  simp only [zb2_some, hkat, Option.bind_some]
  by_cases h7 : K i = 7
  · -- from a file
    rw [h7, if_neg (not_not_intro rfl), if_neg (not_not_intro (show zI (zrk 7) = zI 5 by decide))]
    obtain ⟨st, u2, r2, b1, b2, b3, b4, b5, b6, b7, b8, b9⟩ := redIn_alike F hF a6 a7 HV6
    rw [b1]
    refine ⟨st, st, c, u2, r2, rfl, b2, Or.inl ⟨rfl, b3⟩, b4, Nat.le_refl _, b5, zLo_tr hlo6 ?_, zT4_tr ht46 ?_, zRk_tr hrk6 ⟨zq_mono b8 (by decide) (by decide), fun j hj => ⟨b9 j hj, b8.2.2.1 26 j (by decide)⟩⟩, fun y _ => (show cP u2 6 y = cP u6 6 y from b6.2.2.1 6 y (by omega)).trans (a8.2.2.1 6 y (by omega))⟩
    · intro j hj
      have e1 : ∀ f, f ≠ 11 → ∀ o, cI u2 f o = cI (sI u2 11 k (cI u6 11 k)) f o := fun f hf o => (b7 f o (fun hh => hf hh.1)).symm
      refine ⟨?_, b6.2.2.1 4 j (by omega), ?_, ?_, fun y => b6.2.2.2.1 0 _ y (by omega) (by omega)⟩
      · rw [← b7 11 j (by omega)]; exact b6.1 11 j (by omega) (by omega)
      · rw [e1 0 (by omega)]; exact b6.1 0 _ (by omega) (by omega)
      · rw [e1 1 (by omega)]; exact b6.1 1 _ (by omega) (by omega)
    · refine ⟨?_, ?_, congrFun b6.2.2.2.2.1 _, fun y => b6.2.2.2.1 0 _ y (by omega) (by omega)⟩
      · rw [← b7 0 _ (by omega)]; exact b6.1 0 _ (by omega) (by omega)
      · rw [← b7 1 _ (by omega)]; exact b6.1 1 _ (by omega) (by omega)
  · -- to a file
    rw [if_pos (by rw [zI_eq (by omega) (by omega) (by omega) (by omega)]; exact h7)]
    obtain ⟨em, hem⟩ : ∃ em : Bool, em = decide (K i = 8) := ⟨_, rfl⟩
    have hx9 : (if ¬ zI (K i) = zI 8 then some (0 : Int) else some 1) = some (zB em) := by
      rw [hem]
      by_cases h8 : K i = 8
      · rw [h8]; rfl
      · rw [if_pos (by rw [zI_eq (by omega) (by omega) (by omega) (by omega)]; exact h8), decide_eq_false h8]; rfl
    have hop : zrk (K i) = if em = true then 7 else 6 := by
      rw [hem]
      have : K i = 8 ∨ K i = 9 := by omega
      rcases this with h | h
      · rw [h]; rfl
      · rw [h]; rfl
    rw [hx9]
    simp only [Option.bind_some, if_pos hk5]
    obtain ⟨st, st2, c2, u2, r2, b1, b2, b3, b4, b5, b6, b7, b8, b9, b10, b11⟩ := redOut_alike F hF a6 a7 HV6 em (zrk (K i)) hop
    rw [b1]
    refine ⟨st, st2, c2, u2, r2, rfl, ?_, b3, b4, b5, b6, zLo_tr hlo6 b7, zT4_tr ht46 b8, zRk_tr hrk6 ⟨zq_mono b9 (by decide) (by decide), fun j hj => ⟨b9.2.2.1 24 j (by decide), b10 j hj⟩⟩, fun y hy => (b11 y hy).trans (a8.2.2.1 6 y (by omega))⟩
    rw [if_pos (show ¬ zI (zrk (K i)) = zI 5 by rw [hop]; cases em <;> decide)]
    exact b2
theorem zwd_1 {K : Nat → Int} {i e : Nat} (h : ∀ j, i ≤ j → j < e → (7 ≤ K j ∧ K j ≤ 10) ∧ (K j ≠ 10 → j + 1 < e ∧ K (j + 1) = 10)) : ∀ j, i + 1 ≤ j → j < e → (7 ≤ K j ∧ K j ≤ 10) ∧ (K j ≠ 10 → j + 1 < e ∧ K (j + 1) = 10) := fun j h1 h2 => h j (by omega) h2
/-- all of them -/
theorem redirs (F : Nat) (hF : 200 ≤ F) {m n h k inp : Nat} {K L A B : Nat → Int} (HS : zSt m n K L A B) (e : Nat) (he : e ≤ m) (g : Int) : ∀ (f i nc nr c : Nat) (u : ZC) (r : ZR), e - i = f → i ≤ e → f + 1 < nc → f < nr → zRn u r m n K L A B c h k → zLv u r c k inp → (∀ j, i ≤ j → j < e → (7 ≤ K j ∧ K j ≤ 10) ∧ (K j ≠ 10 → j + 1 < e ∧ K (j + 1) = 10)) →
    ∃ (st : Int) (c2 : Nat) (u2 : ZC) (r2 : ZR), cRunner_redirect_6 F nc u (e : Int) k 0 (i : Int) = some (st, u2) ∧ zRn u2 r2 m n K L A B c2 h k ∧ c ≤ c2 ∧ zLv u2 r2 c2 k inp ∧ zLo k u u2 ∧ zT4 u u2 (4 + 4 * k) ∧ zRk k r r2 ∧ (∀ y, y ≤ c → cP u2 6 y = cP u 6 y) ∧ ((st = 0 ∧ ∃ n3, r_startCommand_89 F nr r g (e : Int) 0 (i : Int) = r_startCommand_89 F (n3 + 1) r2 g (e : Int) 0 (e : Int)) ∨ (st = 1 ∧ r_startCommand_89 F nr r g (e : Int) 0 (i : Int) = some (1, tI r2 22 (e : Int))) ∨ (st = 100 ∧ r_startCommand_89 F nr r g (e : Int) 0 (i : Int) = some (-9, tI r2 22 (rI r2 22)))) := by
  have hm64 : m ≤ 64 := by have := HS.1; have := HS.2.1; omega
  intro f
  induction f with
  | zero =>
    intro i nc nr c u r hf hi hnc hnr H HV hw
    obtain ⟨nc, rfl⟩ : ∃ n', nc = n' + 1 := ⟨nc - 1, by omega⟩
    obtain ⟨nr, rfl⟩ : ∃ n', nr = n' + 1 := ⟨nr - 1, by omega⟩
    have hie : i = e := by omega
    subst hie
    refine ⟨0, c, u, r, ?_, H, Nat.le_refl _, HV, zLo_rf _ _, zT4_rf _ _, zRk_rf _ _, fun _ _ => rfl, Or.inl ⟨rfl, nr, rfl⟩⟩
    rw [cRunner_redirect_6, if_pos (by rw [zI_le (by omega) (by omega) (by omega) (by omega)]; omega)]
    rfl
  | succ f ih =>
    intro i nc nr c u r hf hi hnc hnr H HV hw
    obtain ⟨nc, rfl⟩ : ∃ n', nc = n' + 1 := ⟨nc - 1, by omega⟩
    obtain ⟨nr, rfl⟩ : ∃ n', nr = n' + 1 := ⟨nr - 1, by omega⟩
    obtain ⟨m64, k2, k12, kK, kR⟩ := zTs_K HS H.2.2.2.2.2.2.1
    obtain ⟨w1, w2⟩ := hw i (Nat.le_refl _) (by omega)
    obtain ⟨q1, q2⟩ := kR i (by omega)
    have hq := zrk_eq q1
    have hcr : cRunner_redirect_6 F (nc + 1) u (e : Int) k 0 (i : Int) = (zb2 (if zI (zB (decide (i < m ∧ 7 ≤ K i ∧ K i ≤ 9))) = 0 then some ((0 : Int), u) else Option.bind (cWords_clear F u) fun (u3 : ZC) => Option.bind (cWords_add F u3 ((i : Int) + 1) (cI u3 8 0)) fun (u4 : ZC) => zb2 (cTree_follow F u4 0) fun (p5 : Option Nat) (u6 : ZC) => Option.bind (cTokens_kindAt F u6 (i : Int)) fun (p7 : Int) => zb2 (if ¬ zI p7 = zI 7 then (Option.bind (cTokens_kindAt F u6 (i : Int)) fun (p8 : Int) => Option.bind (if ¬ zI p8 = zI 8 then some (0 : Int) else some 1) fun (x9 : Int) => if k < 5 then (zb2 (cRunner_redirectOutput F u6 k x9) fun (p10 : Int) (u11 : ZC) => some (p10, u11)) else none) else zb2 (cRunner_redirectInput F u6 k) fun (p12 : Int) (u13 : ZC) => some (p12, u13)) fun (x14 : Int) (u15 : ZC) => some (x14, u15)) fun (x16 : Int) (u17 : ZC) => cRunner_redirect_6 F nc u17 (e : Int) k x16 ((i : Int) + 1)) := by
      rw [cRunner_redirect_6, if_neg (by rw [zI_le (by omega) (by omega) (by omega) (by omega)]; omega), if_neg (not_not_intro z00), cisred m64 k2 kK i (by omega)]
      rfl
    have hrr : r_startCommand_89 F (nr + 1) r g (e : Int) 0 (i : Int) = if 7 ≤ K i ∧ K i ≤ 9 then (zb2 (r_redirect F r (zrk (K i)) ((i : Int) + 1)) fun (p11 : Int) (u12 : ZR) => if zI p11 = 0 then r_startCommand_89 F nr u12 g (e : Int) 0 ((i : Int) + 1) else Option.bind (if zI p11 ≤ 0 then some (rI u12 22) else some (e : Int)) fun (x13 : Int) => some (p11, tI u12 22 x13)) else r_startCommand_89 F nr r g (e : Int) 0 ((i : Int) + 1) := by
      have k8 : ¬ zrk (K i) = 8 := fun hh => by have := hq.1.1 hh; omega
      have k9 : ¬ zrk (K i) = 9 := fun hh => by have := hq.2.1.1 hh; omega
      have hzr := hq.2.2.2.1
      rw [r_startCommand_89, if_neg (by rw [zI_le (by omega) (by omega) (by omega) (by omega)]; omega), if_pos (show zix (i : Int) 64 from ⟨by omega, by omega, by omega⟩), Int.toNat_natCast, q2, if_pos (by rw [zI_eq (by omega) (by omega) (by omega) (by omega)]; exact k8), if_pos (by rw [zI_eq (by omega) (by omega) (by omega) (by omega)]; exact k9)]
      simp only [Option.bind_some]
      rw [if_neg (not_not_intro z00), rredir q1]
      by_cases hr : 7 ≤ K i ∧ K i ≤ 9
      · rw [decide_eq_true hr, if_pos hr]
        simp only [Option.bind_some, zB_t, if_neg z10, reduceCtorEq, if_false]
      · rw [decide_eq_false hr, if_neg hr]
        simp only [Option.bind_some, zB_f, if_pos z00, if_true]
    rw [hcr, hrr]
    by_cases hr : 7 ≤ K i ∧ K i ≤ 9
    · obtain ⟨w3, w4⟩ := w2 (by omega)
      rw [decide_eq_true (show i < m ∧ 7 ≤ K i ∧ K i ≤ 9 from ⟨by omega, hr⟩), zB_t, if_neg z10, if_pos hr]
      obtain ⟨st, st2, c2, u2, r2, b1, b2, b3, b4, b5, b6, b7, b8, b9, b10⟩ := red1 F hF HS H HV i (by omega) hr w4
      rw [b1, b2]
      simp only [zb2_some]
      rw [show (i : Int) + 1 = ((i + 1 : Nat) : Int) by omega]
      rcases b3 with ⟨b3, b3b⟩ | ⟨b3, b3b⟩
      · subst b3
        rcases b3b with b3b | b3b
        · subst b3b
          rw [if_pos z00]
          obtain ⟨st, c3, u3, r3, d1, d2, d3, d4, d5, d6, d7, d9, d8⟩ := ih (i + 1) nc nr c2 u2 r2 (by omega) (by omega) (by omega) (by omega) b4 b6 (zwd_1 hw)
          exact ⟨st, c3, u3, r3, d1, d2, by omega, d4, zLo_tr b7 d5, zT4_tr b8 d6, zRk_tr b9 d7, fun y hy => (d9 y (by omega)).trans (b10 y hy), d8⟩
        · subst b3b
          obtain ⟨nc, rfl⟩ : ∃ n', nc = n' + 1 := ⟨nc - 1, by omega⟩
          refine ⟨1, c2, u2, r2, ?_, b4, b5, b6, b7, b8, b9, b10, Or.inr (Or.inl ⟨rfl, ?_⟩)⟩
          · rw [cRunner_redirect_6]
            have : (if zI (e : Int) ≤ zI ((i + 1 : Nat) : Int) then some true else if ¬ zI 1 = 0 then some true else some false) = some true := by
              split
              · rfl
              · rfl
            rw [this]
            rfl
          · rw [if_neg z10, if_neg (by decide)]
            rfl
      · subst b3
        subst b3b
        obtain ⟨nc, rfl⟩ : ∃ n', nc = n' + 1 := ⟨nc - 1, by omega⟩
        refine ⟨100, c2, u2, r2, ?_, b4, b5, b6, b7, b8, b9, b10, Or.inr (Or.inr ⟨rfl, ?_⟩)⟩
        · rw [cRunner_redirect_6]
          have : (if zI (e : Int) ≤ zI ((i + 1 : Nat) : Int) then some true else if ¬ zI 100 = 0 then some true else some false) = some true := by
            split
            · rfl
            · rfl
          rw [this]
          rfl
        · rw [if_neg (by decide), if_pos (by decide)]
          rfl
    · rw [decide_eq_false (fun hh => hr hh.2), zB_f, if_pos z00, if_neg hr]
      simp only [zb2_some]
      rw [show (i : Int) + 1 = ((i + 1 : Nat) : Int) by omega]
      exact ih (i + 1) nc nr c u r (by omega) (by omega) (by omega) (by omega) H HV (zwd_1 hw)
