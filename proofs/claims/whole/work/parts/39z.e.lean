/-! one command, in the reference's loop -/
/-- the class's state behind a command, put back where it was if there are several -/
def zhr (r : ZR) (k hb : Nat) (u2 : ZC) : ZC := if zI (rA r 28 k) = 0 then u2 else sP u2 1 0 (some hb)
/-- the reference goes on behind endCommand -/
def zPost (F n N t : Nat) (v : Int) (x : Option (Int × ZR)) : Option (Int × ZR) := zb2 x fun (p4 : Int) (u5 : ZR) => if ¬ zI p4 = 0 then r_execute_41 F (r_execute_6 F n) N u5 (t : Int) v else some (0, u5)
def zCmd (F m n : Nat) (K L A B : Nat → Int) (k hb e : Nat) (u : ZC) (r : ZR) (c : Nat) (X : Option (Int × ZC)) (Y : Option (Int × ZR)) : Prop :=
  ∃ (st : Int) (c2 : Nat) (u2 : ZC) (r2 : ZR), X = some (st, u2) ∧ c ≤ c2 ∧ (∀ y, y ≤ c → cP u2 6 y = cP u 6 y) ∧ zLo k u u2 ∧ zLk k r r2 ∧
  ((st = 100 ∧ Y = some (0, r2) ∧ zFl (zhr r k hb u2) r2 m n K L A B k c) ∨
   ((st = 0 ∨ st = 1 ∨ st = 2 ∨ st = 127) ∧ ∃ (h2 : Nat) (w2 : List Int) (n2 N2 t2 : Nat) (v2 s2 : Int), Y = zPost F n2 N2 t2 v2 (r_endCommand_64 F r2 st) ∧ zRn (zhr r k hb u2) r2 m n K L A B c2 h2 k ∧ zT (zhr r k hb u2) (4 + 4 * k) w2 ∧ (rI r2 35 = (w2.length : Int) ∧ zRA r2 34 0 w2) ∧ rI r2 22 = (e : Int) ∧ (n2 + t2 + 1 = F ∧ t2 < e ∧ k + 1 ≤ N2) ∧ (0 ≤ v2 ∧ v2 ≤ 127) ∧ (rA r2 28 k = rA r 28 k ∧ rA r2 29 k = rA r 29 k ∧ rA r2 23 k = rA r 23 k ∧ rA r2 27 k = (hb : Int)) ∧ (s2 = 5 ∨ s2 = 6) ∧ zA K m e s2 k = true))
theorem zFl_of {u2 : ZC} {r r2 : ZR} {m n c c2 h2 hb k : Nat} {K L A B : Nat → Int} (H : zRn u2 r2 m n K L A B c2 h2 k) (hc : c ≤ c2) (hb2 : hb ≤ c2) (h6 : cP u2 6 hb = none) (h28 : rA r2 28 k = rA r 28 k) (h27 : rA r2 27 k = (hb : Int)) : zFl (zhr r k hb u2) r2 m n K L A B k c := by
  have h9 : rI r2 9 = (h2 : Int) := H.1.1.2.2.2.2.1
  have h21 : rI r2 21 = (k : Int) := H.2.2.2.2.2.2.2.1.2
  have hk5 : k < 5 := H.2.2.2.2.2.2.2.1.1
  unfold zhr
  by_cases hm : zI (rA r 28 k) = 0
  · rw [if_pos hm]
    refine ⟨c2, h2, k, hc, ?_, h21, Nat.le_refl _, hk5, ?_⟩
    · rw [tI_eq h9, tI_eq h21]
      exact zRn_st0 H 0 (by decide)
    · rw [if_pos rfl, h28, if_pos hm]
      exact h9.symm
  · rw [if_neg hm]
    refine ⟨c2, hb, k, hc, ?_, h21, Nat.le_refl _, hk5, ?_⟩
    · rw [tI_eq (r := tI r2 9 (hb : Int)) (k := 21) (v := (k : Int)) h21]
      exact zRn_st0 (zRn_here H hb2 h6) 0 (by decide)
    · rw [if_pos rfl, h28, if_neg hm]
      exact h27.symm
theorem exec_step (F : Nat) (nn t : Nat) (r : ZR) (ht : t < 300) : r_execute_6 F (nn + 1) r (t : Int) = zb2 (r_startCommand F r) fun (p2 : Int) (u3 : ZR) => if ¬ zI p2 = zI (-9) then (if zI p2 < 0 then r_execute_41 F (r_execute_6 F nn) F u3 (t : Int) p2 else zPost F nn F t p2 (r_endCommand F u3 p2 0)) else some (0, u3) := by
  rw [r_execute_6, if_neg (by rw [zI_le (by omega) (by omega) (by omega) (by omega)]; omega)]
  rfl
/-- from before endCommand to before the output goes on -/
theorem mid_cmd (F : Nat) (hF : 200 ≤ F) {u u2 : ZC} {r r2 : ZR} {m n c c2 hx hb k inp e : Nat} {K L A B : Nat → Int} {g : Int} {w : List Int} (n2 N2 t2 : Nat) (v2 s2 st : Int) (X : Option (Int × ZC)) (hX : X = zTlC F k st u2) (hst : st = 0 ∨ st = 1 ∨ st = 2 ∨ st = 127) (M : zMid u2 r2 m n K L A B c2 hx hb k inp g w) (hc : c ≤ c2) (hd : ∀ y, y ≤ c → cP u2 6 y = cP u 6 y) (hlo : zLo k u u2) (hlk : zLk k r r2) (h22 : rI r2 22 = (e : Int)) (hn : n2 + t2 + 1 = F ∧ t2 < e ∧ k + 1 ≤ N2) (hv : 0 ≤ v2 ∧ v2 ≤ 127) (hr : rA r2 28 k = rA r 28 k ∧ rA r2 29 k = rA r 29 k ∧ rA r2 23 k = rA r 23 k) (hs : s2 = 5 ∨ s2 = 6) (hA : zA K m e s2 k = true) : zCmd F m n K L A B k hb e u r c X (zPost F n2 N2 t2 v2 (r_endCommand F r2 st g)) := by
  rw [hX]
  have e28 : ∀ x : ZC, (if zI (rA r2 28 k) = 0 then x else sP x 1 0 (some hb)) = zhr r k hb x := fun x => by unfold zhr; rw [hr.1]
  rcases fin_alike F hF M st hst with ⟨u3, r3, a1, a2, a3, a4, a5, a6⟩ | ⟨u3, r3, h3, w3, a1, a2, a3, a4, a5, a6, a7, a8⟩
  · refine ⟨100, c2, u3, r3, a1, hc, fun y hy => by rw [a6]; exact hd y hy, zLo_tr hlo a4, zLk_tr hlk a5, Or.inl ⟨rfl, ?_, ?_⟩⟩
    · rw [a2]; rfl
    · rw [e28] at a3
      obtain ⟨c3, h3, lv, q1, q2⟩ := a3
      exact ⟨c3, h3, lv, by omega, q2⟩
  · refine ⟨st, c2, u3, r3, a1, hc, fun y hy => by rw [a8]; exact hd y hy, zLo_tr hlo a6, zLk_tr hlk (zLk_q a7 (by decide)), Or.inr ⟨hst, h3, w3, n2, N2, t2, v2, s2, by rw [a2], ?_, ?_, a5, by rw [a7.1 22 (by decide)]; exact h22, hn, hv, ?_, hs, hA⟩⟩
    · rw [e28] at a3; exact a3
    · rw [e28] at a4; exact a4
    · rw [a7.2.2.1 28 k (by decide), a7.2.2.1 29 k (by decide), a7.2.2.1 23 k (by decide), a7.2.2.1 27 k (by decide)]
      exact ⟨hr.1, hr.2.1, hr.2.2, M.2.2.2.2.2.1⟩
theorem cmd_simple (F : Nat) (hF : 500 ≤ F) (rec : ZC → Int → Int → Int → Nat → Option (Int × ZC)) {u : ZC} {r : ZR} {m n c hb k inp : Nat} {K L A B : Nat → Int} (HS : zSt m n K L A B) (H : zRn u r m n K L A B c hb k) (p : Nat) (s : Int) (hpm : p < m) (hs : 0 ≤ s ∧ s ≤ 3) (hA : zA K m p s k = true) (hkp : 7 ≤ K p ∧ K p ≤ 10) (h22 : rI r 22 = (p : Int)) (hin : zIp inp (rA r 25 k)) (h28 : rA r 28 k = 0 ∨ rA r 28 k = 1) (hp : p = 0 ∨ ¬ (7 ≤ K (p - 1) ∧ K (p - 1) ≤ 9)) (nn t : Nat) (hn : nn + t = F) (ht : t ≤ p) :
    p < zF qP K m p 0 ∧ zCmd F m n K L A B k hb (zF qP K m p 0) u r c (cRunner_runCommand F rec u (p : Int) ((zF qP K m p 0 : Nat) : Int) (k : Int) inp) (r_execute_6 F nn r (t : Int)) := by
  have hm64 : m ≤ 64 := by have := HS.1; have := HS.2.1; omega
  obtain ⟨e, e1, e2, e3, e4, e5, -, e7⟩ := st_simple HS.2.2.1 (k : Int) (m - p) p s rfl (by omega) hA (Or.inl ⟨hs.1, by omega, hpm, hkp.1, hkp.2⟩)
  have hpe : p < e := by
    apply Classical.byContradiction
    intro hh
    have hpe : p = e := by omega
    rw [← hpe] at e3
    rcases e3 with e3 | e3
    · omega
    · have := of_decide_eq_true e3
      omega
  have hzF : zF qP K m p 0 = e := by
    rw [zF_words qP (fun k h1 h2 => by unfold qP; exact decide_eq_false (by omega)) K m e e2 (e - p) p rfl e1 (fun j h1 h2 => (e5 j h1 h2).1)]
    rcases e3 with e3 | e3
    · rw [e3]; exact zF_end (Nat.le_refl _)
    · by_cases hem : e < m
      · exact zF_hit hem rfl e3
      · rw [zF_end (by omega)]; omega
  have hex : ∃ j, p ≤ j ∧ j < e ∧ K j = 10 ∧ (p < j → ¬ (7 ≤ K (j - 1) ∧ K (j - 1) ≤ 9)) := by
    rcases e7 with e7 | e7 | ⟨j, j1, j2, j3, j4, j5⟩
    · omega
    · omega
    · exact ⟨j, j1, j2, j3, fun hh => by have := j5 hh; omega⟩
  rw [hzF]
  refine ⟨hpe, ?_⟩
  obtain ⟨nn, rfl⟩ : ∃ n', nn = n' + 1 := ⟨nn - 1, by omega⟩
  rw [exec_step F nn t r (by omega)]
  have hbc : hb ≤ c := H.1.1.2.2.2.2.2.1
  have hN : nn + t + 1 = F ∧ t < e ∧ k + 1 ≤ F := ⟨by omega, by omega, by have := H.2.2.2.2.2.2.2.1.1; omega⟩
  obtain ⟨c2, u2, r2, b1, b2, b3, b4, b5, b6⟩ := simple_alike F (by omega) rec HS H p e hpe e2 h22 hin h28 hzF.symm e5 hp hex
  rcases b6 with ⟨d1, d2, h2, d3, d4⟩ | ⟨d1, d2, d3, d4⟩ | ⟨st, hx, w, d1, d2, d3, d4, d5⟩
  · rw [d1, d2]
    simp only [zb2_some, not_true, if_false]
    exact ⟨100, c2, u2, r2, rfl, b1, b2, b3, b4, Or.inl ⟨rfl, rfl, zFl_of d3 b1 (by omega) d4 b5.1 b5.2.2.2⟩⟩
  · rw [d1, d2]
    simp only [zb2_some]
    rw [if_pos (by decide), if_neg (by decide)]
    obtain ⟨h2, g1, g2⟩ := fin_empty F (by omega) d4 1
    refine ⟨1, c2, u2, tI r2 9 (h2 : Int), rfl, b1, b2, b3, zLk_tr b4 (zLk_q (zq_I [9] [] r2 9 (h2 : Int) (by decide)) (by decide)), Or.inr ⟨Or.inr (Or.inl rfl), h2, [], nn, F, t, 1, 5, by rw [g1], ?_, ?_, d4.2.2.2.1, d3, hN, by decide, ⟨b5.1, b5.2.1, b5.2.2.1, b5.2.2.2⟩, Or.inl rfl, e4⟩⟩
    · unfold zhr
      rw [← b5.1]
      exact g2
    · have hT0 : zT u2 (4 + 4 * k) [] := (d4.2.2.1.2.1 (Nat.zero_le _)).2
      unfold zhr
      split
      · exact hT0
      · exact hT0
  · rw [d3]
    simp only [zb2_some]
    rw [if_pos (by rcases d1 with h | h | h | h <;> (rw [h]; decide)), if_neg (by rcases d1 with h | h | h | h <;> (rw [h]; decide))]
    exact mid_cmd F (by omega) nn F t st 5 st _ d2 d1 d5 b1 b2 b3 b4 d4 hN (by omega) ⟨b5.1, b5.2.1, b5.2.2.1⟩ (Or.inl rfl) e4
