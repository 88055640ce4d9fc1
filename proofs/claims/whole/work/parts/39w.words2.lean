/-! the words of a command -/
theorem cadd_no {F : Nat} {u : ZC} {m : Nat} {K : Nat → Int} (hm64 : m ≤ 64) (h2 : cI u 2 0 = (m : Int)) (hK : ∀ j, j < m → cA u 1 0 j = K j ∧ 0 ≤ K j ∧ K j ≤ 10) (i : Nat) (hi : i < m) (h : K i ≠ 10) (st : Int) : cWords_add F u (i : Int) st = some u := by
  unfold cWords_add
  rw [ckat hm64 h2 (fun j hj => (hK j hj).1) i (by omega)]
  have hk := hK i hi
  unfold zkt
  rw [if_pos hi]
  simp only [Option.bind_some]
  rw [if_pos (by rw [zI_eq (by omega) (by omega) (by omega) (by omega)]; exact h)]
  rfl
theorem take_loop (F : Nat) (hF : 200 ≤ F) {m n c h k : Nat} {K L A B : Nat → Int} (HS : zSt m n K L A B) (p e : Nat) (he : e ≤ m) (hp : p = 0 ∨ ¬ (7 ≤ K (p - 1) ∧ K (p - 1) ≤ 9)) : ∀ (f i nc nr : Nat) (u : ZC) (r : ZR) (ws : List (List Int)), e - i = f → p ≤ i → i ≤ e → f < nc → f < nr → zRn u r m n K L A B c h k → zwl ws → zW u ws → zWr r ws → rI r 22 = (p : Int) → ws.length ≤ i → (∀ j, i ≤ j → j < m → 2 * (ws.flatten.length : Int) ≤ 3 * A j) →
    ∃ (ws2 : List (List Int)) (u2 : ZC) (r2 : ZR), cRunner_takeWords_9 F nc u (e : Int) (i : Int) = some u2 ∧ (∃ n3, r_startCommand_274 F nr r (e : Int) (i : Int) = r_startCommand_274 F (n3 + 1) r2 (e : Int) (e : Int)) ∧ zwl ws2 ∧ zW u2 ws2 ∧ zWr r2 ws2 ∧ zRn u2 r2 m n K L A B c h k ∧ zFr 1 1 1 0 u u2 ∧ zq [16, 19] [17, 18, 20] r r2 ∧ ws.length ≤ ws2.length ∧ ((∃ j, i ≤ j ∧ j < e ∧ K j = 10 ∧ (p < j → ¬ (7 ≤ K (j - 1) ∧ K (j - 1) ≤ 9))) → ws.length < ws2.length) := by
  have hm64 : m ≤ 64 := by have := HS.1; have := HS.2.1; omega
  intro f
  induction f with
  | zero =>
    intro i nc nr u r ws hf hpi hi hnc hnr H hl HW HR h22 hws hb
    obtain ⟨nc, rfl⟩ : ∃ n', nc = n' + 1 := ⟨nc - 1, by omega⟩
    obtain ⟨nr, rfl⟩ : ∃ n', nr = n' + 1 := ⟨nr - 1, by omega⟩
    have hie : i = e := by omega
    subst hie
    refine ⟨ws, u, r, ?_, ⟨nr, rfl⟩, hl, HW, HR, H, zFr_rf _ _ _ _ u, zq_rf _ _ r, Nat.le_refl _, fun ⟨j, h1, h2, _⟩ => by omega⟩
    rw [cRunner_takeWords_9, if_pos (by rw [zI_le (by omega) (by omega) (by omega) (by omega)]; omega)]
  | succ f ih =>
    intro i nc nr u r ws hf hpi hi hnc hnr H hl HW HR h22 hws hb
    obtain ⟨nc, rfl⟩ : ∃ n', nc = n' + 1 := ⟨nc - 1, by omega⟩
    obtain ⟨nr, rfl⟩ : ∃ n', nr = n' + 1 := ⟨nr - 1, by omega⟩
    obtain ⟨m64, k2, k12, kK, kR⟩ := zTs_K HS H.2.2.2.2.2.2.1
    obtain ⟨q1, q2⟩ := kR i (by omega)
    have hq := zrk_eq q1
    have hzr := hq.2.2.2.1
    -- is the token ahead a redirection
    have hisr : cTokens_isRedirection F u ((i : Int) - 1) = some (zB (decide (p < i ∧ 7 ≤ K (i - 1) ∧ K (i - 1) ≤ 9))) := by
      by_cases h0 : i = 0
      · subst h0
        unfold cTokens_isRedirection
        rw [if_pos (by decide), decide_eq_false (by omega)]
        rfl
      · rw [show (i : Int) - 1 = ((i - 1 : Nat) : Int) by omega, cisred m64 k2 kK (i - 1) (by omega)]
        congr 2
        by_cases hpi2 : p < i
        · rw [decide_eq_decide]
          constructor
          · rintro ⟨-, h1⟩; exact ⟨hpi2, h1⟩
          · rintro ⟨-, h1⟩; exact ⟨by omega, h1⟩
        · have hpe : p = i := by omega
          subst hpe
          rw [decide_eq_false (fun hh => (hp.resolve_left h0) hh.2), decide_eq_false (by omega)]
    have hb20 : (Option.bind (if ¬ zI (rA r 13 i) = 0 then some true else if zI (i : Int) = zI (rI r 22) then some false else if zix ((i : Int) - 1) 64 then (Option.bind (r_redirects F r (rA r 13 ((i : Int) - 1).toNat)) fun (p19 : Int) => if ¬ zI p19 = 0 then some true else some false) else none) fun (b20 : Bool) => if b20 = true then some r else Option.bind (r_expand F r (i : Int)) fun (u21 : ZR) => some u21) = if K i = 10 ∧ ¬ (p < i ∧ 7 ≤ K (i - 1) ∧ K (i - 1) ≤ 9) then (Option.bind (r_expand F r (i : Int)) fun (u21 : ZR) => some u21) else some r := by
      rw [q2]
      by_cases k10 : K i = 10
      · rw [if_neg (not_not_intro (by rw [hq.2.2.1.2 k10]; decide)), h22]
        by_cases hpi2 : p < i
        · rw [if_neg (by rw [zI_eq (by omega) (by omega) (by omega) (by omega)]; omega), if_pos (show zix ((i : Int) - 1) 64 from ⟨by omega, by omega, by omega⟩), show ((i : Int) - 1).toNat = i - 1 by omega, (kR (i - 1) (by omega)).2, rredir (kR (i - 1) (by omega)).1]
          by_cases hr : 7 ≤ K (i - 1) ∧ K (i - 1) ≤ 9
          · rw [decide_eq_true hr, if_neg (fun hh => hh.2 ⟨hpi2, hr⟩)]
            rfl
          · rw [decide_eq_false hr, if_pos ⟨k10, fun hh => hr hh.2⟩]
            rfl
        · have hpe : p = i := by omega
          rw [if_pos (by rw [hpe]), if_pos ⟨k10, fun hh => hpi2 hh.1⟩]
          rfl
      · rw [if_pos (by rw [zI_eq0 (by omega) (by omega)]; exact fun hh => k10 (hq.2.2.1.1 hh)), if_neg (fun hh => k10 hh.1)]
        rfl
    have hrs : r_startCommand_274 F (nr + 1) r (e : Int) (i : Int) = Option.bind (if K i = 10 ∧ ¬ (p < i ∧ 7 ≤ K (i - 1) ∧ K (i - 1) ≤ 9) then (Option.bind (r_expand F r (i : Int)) fun (u21 : ZR) => some u21) else some r) fun (u22 : ZR) => r_startCommand_274 F nr u22 (e : Int) ((i : Int) + 1) := by
      rw [r_startCommand_274, if_neg (by rw [zI_le (by omega) (by omega) (by omega) (by omega)]; omega), if_pos (show zix (i : Int) 64 from ⟨by omega, by omega, by omega⟩), Int.toNat_natCast, ← hb20]
    rw [hrs, cRunner_takeWords_9, if_neg (by rw [zI_le (by omega) (by omega) (by omega) (by omega)]; omega), hisr]
    simp only [Option.bind_some]
    rw [show (i : Int) + 1 = ((i + 1 : Nat) : Int) by omega]
    -- goes on with the same words
    have hsame : (if ¬ zI (zB (decide (p < i ∧ 7 ≤ K (i - 1) ∧ K (i - 1) ≤ 9))) = 0 then some u else Option.bind (cWords_add F u (i : Int) (cI u 8 0)) fun (u3 : ZC) => some u3) = some u → ¬ (K i = 10 ∧ ¬ (p < i ∧ 7 ≤ K (i - 1) ∧ K (i - 1) ≤ 9)) → ∃ (ws2 : List (List Int)) (u2 : ZC) (r2 : ZR), (Option.bind (if ¬ zI (zB (decide (p < i ∧ 7 ≤ K (i - 1) ∧ K (i - 1) ≤ 9))) = 0 then some u else Option.bind (cWords_add F u (i : Int) (cI u 8 0)) fun (u3 : ZC) => some u3) fun (u4 : ZC) => cRunner_takeWords_9 F nc u4 (e : Int) ((i + 1 : Nat) : Int)) = some u2 ∧ (∃ n3, (Option.bind (if K i = 10 ∧ ¬ (p < i ∧ 7 ≤ K (i - 1) ∧ K (i - 1) ≤ 9) then (Option.bind (r_expand F r (i : Int)) fun (u21 : ZR) => some u21) else some r) fun (u22 : ZR) => r_startCommand_274 F nr u22 (e : Int) ((i + 1 : Nat) : Int)) = r_startCommand_274 F (n3 + 1) r2 (e : Int) (e : Int)) ∧ zwl ws2 ∧ zW u2 ws2 ∧ zWr r2 ws2 ∧ zRn u2 r2 m n K L A B c h k ∧ zFr 1 1 1 0 u u2 ∧ zq [16, 19] [17, 18, 20] r r2 ∧ ws.length ≤ ws2.length ∧ ((∃ j, i ≤ j ∧ j < e ∧ K j = 10 ∧ (p < j → ¬ (7 ≤ K (j - 1) ∧ K (j - 1) ≤ 9))) → ws.length < ws2.length) := by
      intro e1 e2
      rw [e1, if_neg e2]
      simp only [Option.bind_some]
      obtain ⟨ws2, u2, r2, g1, g2, g3, g4, g5, g6, g7, g8, g9, g10⟩ := ih (i + 1) nc nr u r ws (by omega) (by omega) (by omega) (by omega) (by omega) H hl HW HR h22 (by omega) (fun j h1 h2 => hb j (by omega) h2)
      refine ⟨ws2, u2, r2, g1, g2, g3, g4, g5, g6, g7, g8, g9, fun ⟨j, j1, j2, j3, j4⟩ => g10 ⟨j, ?_, j2, j3, j4⟩⟩
      by_cases hji : j = i
      · subst hji
        exact absurd ⟨j3, fun hh => j4 hh.1 hh.2⟩ e2
      · omega
    by_cases hrd : p < i ∧ 7 ≤ K (i - 1) ∧ K (i - 1) ≤ 9
    · refine hsame ?_ (fun hh => hh.2 hrd)
      rw [decide_eq_true hrd, zB_t, if_pos z10]
    · by_cases k10 : K i = 10
      · -- a word
        rw [decide_eq_false hrd, zB_f, if_neg (not_not_intro z00), if_pos ⟨k10, hrd⟩]
        obtain ⟨w, u2, r2, a1, a2, a3, a4, a5, a6, a7, a8⟩ := word_alike F (by omega) HS H hl HW HR i (by omega) k10 (hb i (Nat.le_refl _) (by omega)) (by omega)
        rw [a1, a2]
        simp only [Option.bind_some]
        have H2 : zRn u2 r2 m n K L A B c h k := zRn_fr H a7 ⟨Or.inl rfl, Or.inl rfl⟩ a8 (by decide) (by decide) (zPb_fr a7 H.2.2.2.2.2.1.1)
        obtain ⟨ws2, u3, r3, g1, g2, g3, g4, g5, g6, g7, g8, g9, -⟩ := ih (i + 1) nc nr u2 r2 (ws ++ [w]) (by omega) (by omega) (by omega) (by omega) (by omega) H2 a3 a4 a5 (by rw [a8.1 22 (by decide)]; exact h22) (by rw [List.length_append, List.length_singleton]; omega) (fun j h1 h2 => by have := HS.2.2.2.2.1 i j (by omega) h2; omega)
        rw [List.length_append, List.length_singleton] at g9
        exact ⟨ws2, u3, r3, g1, g2, g3, g4, g5, g6, zFr_tr a7 g7, zq_tr a8 g8, by omega, fun _ => by omega⟩
      · refine hsame ?_ (fun hh => k10 hh.1)
        rw [decide_eq_false hrd, zB_f, if_neg (not_not_intro z00), cadd_no m64 k2 kK i (by omega) k10]
        rfl
theorem take_alike (F : Nat) (hF : 200 ≤ F) {u : ZC} {r : ZR} {m n c h k : Nat} {K L A B : Nat → Int} (HS : zSt m n K L A B) (H : zRn u r m n K L A B c h k) (p e : Nat) (hpe : p ≤ e) (he : e ≤ m) (hp : p = 0 ∨ ¬ (7 ≤ K (p - 1) ∧ K (p - 1) ≤ 9)) (h22 : rI r 22 = (p : Int)) (hex : ∃ j, p ≤ j ∧ j < e ∧ K j = 10 ∧ (p < j → ¬ (7 ≤ K (j - 1) ∧ K (j - 1) ≤ 9))) :
    ∃ (ws : List (List Int)) (u2 : ZC) (r2 : ZR), cRunner_takeWords F u (p : Int) (e : Int) = some u2 ∧ (∃ n3, r_startCommand_274 F F (tI (tI r 16 0) 19 0) (e : Int) (p : Int) = r_startCommand_274 F (n3 + 1) r2 (e : Int) (e : Int)) ∧ zwl ws ∧ zW u2 ws ∧ zWr r2 ws ∧ 1 ≤ ws.length ∧ zRn u2 r2 m n K L A B c h k ∧ zFr 1 1 1 0 u u2 ∧ zq [16, 19] [17, 18, 20] r r2 := by
  have hm64 : m ≤ 64 := by have := HS.1; have := HS.2.1; omega
  have hN1 : cN u 1 = 96 := H.1.2.2.2.2.2.1
  have hPb := H.2.2.2.2.2.1.1
  obtain ⟨u3, a1, a2, a3⟩ := wclear_is F hN1
  have b0 : zq [16, 19] [17, 18, 20] r (tI (tI r 16 0) 19 0) := zq_tr (zq_I _ _ r 16 0 (by decide)) (zq_I _ _ _ 19 0 (by decide))
  have HR0 : zWr (tI (tI r 16 0) 19 0) [] := ⟨rfl, rfl, by decide, fun i hi => absurd hi (Nat.not_lt_zero i), fun i hi => absurd hi (Nat.not_lt_zero i)⟩
  have H3 : zRn u3 (tI (tI r 16 0) 19 0) m n K L A B c h k := zRn_fr H a3 ⟨Or.inl rfl, Or.inl rfl⟩ b0 (by decide) (by decide) (zPb_fr a3 hPb)
  obtain ⟨ws, u4, r4, g1, g2, g3, g4, g5, g6, g7, g8, g9, g10⟩ := take_loop F hF HS p e he hp (e - p) p F F u3 (tI (tI r 16 0) 19 0) [] rfl (Nat.le_refl _) hpe (by omega) (by omega) H3 (fun w hw => by cases hw) a2 HR0 h22 (Nat.zero_le _) (fun j h1 h2 => by
    obtain ⟨aa, bb, ha, -⟩ := HS.2.2.2.1 j h2
    rw [ha]
    show 2 * ((0 : Nat) : Int) ≤ 3 * (aa : Int)
    omega)
  refine ⟨ws, u4, r4, ?_, g2, g3, g4, g5, g10 hex, g6, zFr_tr a3 g7, zq_tr b0 g8⟩
  unfold cRunner_takeWords
  rw [a1]
  exact g1
