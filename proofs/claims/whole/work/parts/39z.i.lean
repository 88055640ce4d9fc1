/-! a pipeline from its start; lists -/
theorem zF_via (q p : Int → Bool) (K : Nat → Int) (m : Nat) : ∀ (f i : Nat) (d : Int), m - i = f → zF q K m (zF (fun k => q k || p k) K m i d) 0 = zF q K m i d := by
  intro f
  induction f with
  | zero =>
    intro i d hf
    rw [zF_end (q := fun k => q k || p k) (by omega), zF_end (Nat.le_refl _), zF_end (by omega)]
  | succ f ih =>
    intro i d hf
    by_cases hc : d = 0 ∧ (q (K i) || p (K i)) = true
    · rw [zF_hit (q := fun k => q k || p k) (by omega) hc.1 hc.2, hc.1]
    · have hgo := zF_go (q := fun k => q k || p k) (K := K) (m := m) (i := i) (d := d) (by omega) hc
      rw [hgo, zF_go (q := q) (i := i) (by omega) (fun hh => hc ⟨hh.1, by rw [hh.2]; rfl⟩)]
      exact ih (i + 1) _ (by omega)
theorem zF_viaC (K : Nat → Int) (m i : Nat) : zF qC K m (zF qS K m i 0) 0 = zF qC K m i 0 := by
  have := zF_via qC (fun k => decide (k = 0 ∨ k = 1 ∨ k = 2)) K m (m - i) i 0 rfl
  rw [qS_or] at this
  exact this
theorem pipe_sim (F : Nat) (hF : 500 ≤ F) (D : Nat) {m n k : Nat} {K L A B : Nat → Int} (HS : zSt m n K L A B) (HLst : k < 4 → zLst F m n K L A B (k + 1) (cRunner_runList F D)) {p nn t c hb inp : Nat} {u : ZC} {r : ZR} {s : Int} (H : zRn u r m n K L A B c hb k) (h22 : rI r 22 = (p : Int)) (hs : s = 0 ∨ s = 2) (hA : zA K m p s k = true) (hpm : p < m) (hprev : p = 0 ∨ ¬ (7 ≤ K (p - 1) ∧ K (p - 1) ≤ 9)) (hin : zIp inp (rA r 23 k)) (hn : nn + t = F) (ht : t ≤ p) :
    zSPp K m p < m ∧ K (zSPp K m p) ≠ 6 ∧ zPip F m n K L A B k (zF qS K m p 0) u r c (cRunner_runPipeline F (cRunner_runList F (D + 1)) u (p : Int) ((zF qS K m p 0 : Nat) : Int) (k : Int) inp) (r_execute_6 F nn (zSP r K m k p) (t : Int)) := by
  have hk5 : k < 5 := H.2.2.2.2.2.2.2.1.1
  have hz : zix (k : Int) 5 := ⟨by omega, by omega, by omega⟩
  obtain ⟨m64, k2, k12, kK, kR⟩ := zTs_K HS H.2.2.2.2.2.2.1
  obtain ⟨S1, S2, S3⟩ := startPipe_is F (by omega) HS H p (by omega) h22
  obtain ⟨T1, T2, T3, T4, T5⟩ := zSP_k r K m k p
  have hqs := zSP_q r K m k p
  obtain ⟨c1, c2⟩ := st_cmd (by omega) HS.2.2.1 hA (by omega) (by omega)
  -- where the first command begins
  obtain ⟨p', hp'⟩ : ∃ p', zSPp K m p = p' := ⟨_, rfl⟩
  have hpp : ∃ s' : Int, (0 ≤ s' ∧ s' ≤ 3) ∧ zA K m p' s' k = true ∧ p' < m ∧ (K p' = 5 ∨ (7 ≤ K p' ∧ K p' ≤ 10)) ∧ (p' = 0 ∨ ¬ (7 ≤ K (p' - 1) ∧ K (p' - 1) ≤ 9)) ∧ p ≤ p' ∧ zF qS K m p' 0 = zF qS K m p 0 := by
    unfold zSPp at hp'
    by_cases h4 : K p = 4
    · rw [if_pos ⟨hpm, h4⟩] at hp'
      subst hp'
      obtain ⟨g1, g2⟩ := zA_in hpm hA
      have hx : znx s 4 k = 3 := by
        unfold znx
        rw [if_neg (by omega), if_neg (by omega), if_neg (by omega), if_neg (by omega), if_pos rfl, if_pos (by omega)]
      rw [h4, hx, show znd 4 (k : Int) = (k : Int) from rfl] at g2
      obtain ⟨d1, d2⟩ := st_cmd (by omega) HS.2.2.1 g2 (by decide) (by decide)
      refine ⟨3, by decide, g2, d1, by omega, Or.inr (by rw [Nat.add_sub_cancel, h4]; decide), by omega, ?_⟩
      rw [zF_go (i := p) hpm (by rw [h4]; decide), h4]
      rfl
    · rw [if_neg (fun hh => h4 hh.2)] at hp'
      subst hp'
      exact ⟨s, by omega, hA, hpm, by omega, hprev, Nat.le_refl _, rfl⟩
  obtain ⟨s', e1, e2, e3, e4, e5, e6, e7⟩ := hpp
  have hloop := pipe_loop F hF D HS HLst (decide (p < m ∧ K p = 4)) (decide (zkt K m (zF qP K m p' 0) = 3)) (m - p') p' F nn t c hb inp u (zSP r K m k p) s' 0 rfl (by omega) S2 (by rw [T1, hp']) e3 e1 e2 e4 e5 (by rw [T2]; exact hin) (by rw [T3, hp']) T4 hn (by omega)
  rw [e7] at hloop
  have hkat : cTokens_kindAt F u (p : Int) = some (K p) := by
    rw [ckat (K := K) m64 k2 (fun j hj => (kK j hj).1) p (by omega)]
    unfold zkt
    rw [if_pos hpm]
  have hKb := (kK p hpm).2
  have hx2 : (if ¬ zI (K p) = zI 4 then some (0 : Int) else some 1) = some (zB (decide (p < m ∧ K p = 4))) := by
    by_cases h4 : K p = 4
    · rw [if_neg (not_not_intro (by rw [h4])), decide_eq_true ⟨hpm, h4⟩]; rfl
    · rw [if_pos (by rw [zI_eq (by omega) (by omega) (by omega) (by omega)]; exact h4), decide_eq_false (fun hh => h4 hh.2)]; rfl
  have hx3 : (if zI (zB (decide (p < m ∧ K p = 4))) = 0 then some (p : Int) else some ((p : Int) + 1)) = some (p' : Int) := by
    rw [← hp']
    unfold zSPp
    by_cases hh : p < m ∧ K p = 4
    · rw [decide_eq_true hh, if_pos hh]; rfl
    · rw [decide_eq_false hh, if_neg hh]; rfl
  have hfind := findP F (by omega) HS H.2.2.2.2.2.2.1 p' (zF qS K m p' 0) (by omega) rfl
  rw [e7] at hfind
  have i2 := (zF_in qP K m (m - p') p' 0 rfl).2.1
  have j2 := (zF_in qS K m (m - p) p 0 rfl).2.1
  have hx5 : (if zI ((zF qS K m p 0 : Nat) : Int) ≤ zI ((zF qP K m p' 0 : Nat) : Int) then some (0 : Int) else some 1) = some (zB (decide (zkt K m (zF qP K m p' 0) = 3))) := by
    have hw := pipe_where K m p'
    rw [e7] at hw
    rcases hw with ⟨w1, w2, w3, w4⟩ | ⟨w1, w2⟩
    · rw [if_neg (by rw [zI_le (by omega) (by omega) (by omega) (by omega)]; omega), decide_eq_true (by unfold zkt; rw [if_pos w1]; exact w2)]; rfl
    · rw [if_pos (by rw [zI_le (by omega) (by omega) (by omega) (by omega)]; omega), decide_eq_false w1]; rfl
  have hcls : cRunner_runPipeline F (cRunner_runList F (D + 1)) u (p : Int) ((zF qS K m p 0 : Nat) : Int) (k : Int) inp = cRunner_runPipeline_71 F (cRunner_runList F (D + 1)) F u ((zF qS K m p 0 : Nat) : Int) (k : Int) k (zB (decide (p < m ∧ K p = 4))) (p' : Int) (zB (decide (zkt K m (zF qP K m p' 0) = 3))) inp 0 := by
    unfold cRunner_runPipeline
    rw [if_pos hz, hkat]
    simp only [Option.bind_some]
    rw [hx2]
    simp only [Option.bind_some]
    rw [hx3]
    simp only [Option.bind_some]
    rw [hfind]
    simp only [Option.bind_some]
    rw [hx5]
    simp only [Option.bind_some, Int.toNat_natCast]
  rw [hcls]
  refine ⟨by omega, by rw [hp']; omega, ?_⟩
  obtain ⟨b, c3, u3, r3, x1, x2, x3, x4, x5, x6⟩ := hloop
  refine ⟨b, c3, u3, r3, x1, x2, x3, x4, zLk_tr S3 x5, ?_⟩
  rcases x6 with x6 | ⟨y1, h2, n2, N2, t2, v2, s2, y2, y3, y4, y5, y6, y7, y8, y9⟩
  · exact Or.inl x6
  · exact Or.inr ⟨y1, h2, n2, N2, t2, v2, s2, y2, y3, y4, y5, y6, y7, by rw [y8, hqs.2.2.1 23 k (by decide)], y9⟩
/-- what a list leaves -/
def zLsr (F m n : Nat) (K L A B : Nat → Int) (k to : Nat) (u : ZC) (r : ZR) (c : Nat) (X : Option (Int × ZC)) (Y : Option (Int × ZR)) : Prop :=
  ∃ (b : Int) (c2 : Nat) (u2 : ZC) (r2 : ZR), X = some (b, u2) ∧ c ≤ c2 ∧ (∀ y, y ≤ c → cP u2 6 y = cP u 6 y) ∧ zLo k u u2 ∧ zLk k r r2 ∧
  ((b = 0 ∧ Y = some (0, r2) ∧ zFl u2 r2 m n K L A B k c) ∨
   (b = 1 ∧ ∃ (h2 n2 N2 t2 : Nat) (v2 : Int), Y = r_execute_41 F (r_execute_6 F n2) N2 r2 (t2 : Int) v2 ∧ zRn u2 r2 m n K L A B c2 h2 k ∧ rI r2 22 = (to : Int) ∧ (n2 + t2 + 1 = F ∧ t2 < to ∧ k + 1 ≤ N2) ∧ (0 ≤ v2 ∧ v2 ≤ 127) ∧ (cI u2 8 0 = 0 ∨ cI u2 8 0 = 1 ∨ cI u2 8 0 = 2 ∨ cI u2 8 0 = 127)))
theorem zLst_tr {F m n : Nat} {K L A B : Nat → Int} {k to c c2 : Nat} {u u2 : ZC} {r r2 : ZR} {X : Option (Int × ZC)} {Y : Option (Int × ZR)} (H : zLsr F m n K L A B k to u2 r2 c2 X Y) (hc : c ≤ c2) (hd : ∀ y, y ≤ c → cP u2 6 y = cP u 6 y) (hl : zLo k u u2) (hk : zLk k r r2) : zLsr F m n K L A B k to u r c X Y := by
  obtain ⟨b, c3, u3, r3, x1, x2, x3, x4, x5, x6⟩ := H
  refine ⟨b, c3, u3, r3, x1, by omega, fun y hy => by rw [x3 y (by omega)]; exact hd y hy, zLo_tr hl x4, zLk_tr hk x5, ?_⟩
  rcases x6 with ⟨y1, y2, y3⟩ | y
  · obtain ⟨c5, h5, lv, f1, f2⟩ := y3
    exact Or.inl ⟨y1, y2, c5, h5, lv, by omega, f2⟩
  · exact Or.inr y
/-- a list from the start of a pipeline that is due -/
def zLp (F m n : Nat) (K L A B : Nat → Int) (k to inp : Nat) (rec : ZC → Int → Int → Int → Nat → Option (Int × ZC)) (p : Nat) : Prop :=
  ∀ (u : ZC) (r : ZR) (c h nc nn t : Nat) (s kd : Int), zRn u r m n K L A B c h k → rI r 22 = (p : Int) → p < m → zF qC K m p 0 = to → zIp inp (rA r 23 k) → (s = 0 ∨ s = 2) → zA K m p s k = true → (p = 0 ∨ ¬ (7 ≤ K (p - 1) ∧ K (p - 1) ≤ 9)) → nn + t = F → t ≤ p → m - p + 1 < nc → cRunner_isDue F u kd = some 1 →
  zSPp K m p < m ∧ K (zSPp K m p) ≠ 6 ∧ zLsr F m n K L A B k to u r c (cRunner_runList_25 F rec nc u (to : Int) (k : Int) inp kd (p : Int)) (r_execute_6 F nn (zSP r K m k p) (t : Int))
theorem due_is (F : Nat) (u : ZC) (h8 : 0 ≤ cI u 8 0 ∧ cI u 8 0 ≤ 127) (kd : Int) (hk : kd = 0 ∨ kd = 1 ∨ kd = 2) : cRunner_isDue F u kd = some (if kd = 0 ∨ (kd = 1 ∧ cI u 8 0 = 0) ∨ (kd = 2 ∧ cI u 8 0 ≠ 0) then 1 else 0) := by
  have hz : zI (cI u 8 0) = 0 ↔ cI u 8 0 = 0 := by rw [zI_eq0 (by omega) (by omega)]
  unfold cRunner_isDue
  by_cases h0 : cI u 8 0 = 0
  · have hz0 := hz.2 h0
    rcases hk with rfl | rfl | rfl
    · rw [if_pos (by decide), if_pos (show ¬ zI 0 = zI 2 by decide), if_pos (Or.inl rfl)]; rfl
    · rw [if_neg (by decide), if_neg (not_not_intro hz0), if_pos (Or.inr (Or.inl ⟨rfl, h0⟩))]; rfl
    · rw [if_pos (by decide), if_neg (by decide), if_pos hz0, if_neg (by omega)]; rfl
  · have hz0 : ¬ zI (cI u 8 0) = 0 := fun hh => h0 (hz.1 hh)
    rcases hk with rfl | rfl | rfl
    · rw [if_pos (by decide), if_pos (show ¬ zI 0 = zI 2 by decide), if_pos (Or.inl rfl)]; rfl
    · rw [if_neg (by decide), if_pos hz0, if_neg (by omega)]; rfl
    · rw [if_pos (by decide), if_neg (by decide), if_neg hz0, if_pos (Or.inr (Or.inr ⟨rfl, h0⟩))]; rfl
theorem zRn_22 {u : ZC} {r : ZR} {m n c h k : Nat} {K L A B : Nat → Int} (H : zRn u r m n K L A B c h k) (x : Int) : zRn u (tI r 22 x) m n K L A B c h k :=
  zRn_fr H (zFr_rf 7777 7777 0 0 u) ⟨Or.inr (Or.inr rfl), Or.inr (Or.inr rfl)⟩ (zq_I [22] [] r 22 x (by decide)) (by decide) (by decide) H.2.2.2.2.2.1.1
theorem zLk_22 (k : Nat) (r : ZR) (x : Int) : zLk k r (tI r 22 x) := fun _ _ _ _ _ => rfl
theorem znx_10 {x d : Int} (h6 : ¬ x = 6) : znx 1 x d = znx 0 x d := by
  unfold znx
  rw [if_neg (show ¬ (7 : Int) ≤ 1 by decide), if_neg (show ¬ (7 : Int) ≤ 0 by decide)]
  simp only [h6, if_false]
  by_cases a1 : x = 7 ∨ x = 8 ∨ x = 9
  · rw [if_pos a1, if_pos a1]; rfl
  · rw [if_neg a1, if_neg a1]
    by_cases a2 : x = 10
    · rw [if_pos a2, if_pos a2]; rfl
    · rw [if_neg a2, if_neg a2]
      by_cases a3 : x = 5
      · rw [if_pos a3, if_pos a3]
        by_cases a4 : d < 4
        · rw [if_pos ⟨by decide, a4⟩, if_pos ⟨by decide, a4⟩]
        · rw [if_neg (fun hh => a4 hh.2), if_neg (fun hh => a4 hh.2)]
      · rw [if_neg a3, if_neg a3]
        by_cases a5 : x = 4
        · rw [if_pos a5, if_pos a5]; rfl
        · rw [if_neg a5, if_neg a5]; rfl
set_option maxHeartbeats 1000000 in
/-- behind a pipeline -/
theorem go_loop (F : Nat) (hF : 500 ≤ F) {m n k to inp : Nat} {K L A B : Nat → Int} (rec : ZC → Int → Int → Int → Nat → Option (Int × ZC)) (HS : zSt m n K L A B) (e0 : Nat) (IH : ∀ p, e0 < p → zLp F m n K L A B k to inp rec p) : ∀ (f e nc ng : Nat) (u : ZC) (r : ZR) (c h n2 N2 t2 : Nat) (v2 s2 : Int), m - e = f → e0 ≤ e → e ≤ m → f + 1 < nc → f < ng → (e = m ∨ K e = 0 ∨ K e = 1 ∨ K e = 2 ∨ K e = 6) → zF qC K m e 0 = to → zRn u r m n K L A B c h k → rI r 22 = (e : Int) → zIp inp (rA r 23 k) → n2 + t2 + 1 = F ∧ t2 < e ∧ k + 1 ≤ N2 → 0 ≤ v2 ∧ v2 ≤ 127 → (cI u 8 0 = 0 ∨ cI u 8 0 = 1 ∨ cI u 8 0 = 2 ∨ cI u 8 0 = 127) → (s2 = 5 ∨ s2 = 6) → zA K m e s2 k = true →
    zLsr F m n K L A B k to u r c (cRunner_runList_75 F rec (cRunner_runList_25 F rec nc) u (to : Int) (k : Int) inp (e : Int)) (Option.bind (r_goOn_0 F ng r) fun (u10 : ZR) => r_execute_41 F (r_execute_6 F n2) N2 u10 (t2 : Int) v2) := by
  intro f
  induction f using Nat.strongRecOn with
  | _ f ih =>
    intro e nc ng u r c h n2 N2 t2 v2 s2 hf he0 hem hnc hng hke hto H h22 hin hn hv hst hs2 hA
    have hk6n : ¬ K e ≤ 2 → e = m ∨ K e = 6 := fun hh => by omega
    have hsx : 5 ≤ s2 ∧ s2 ≤ 6 := by omega
    replace hst : zHd (cI u 8 0 = 0 ∨ cI u 8 0 = 1 ∨ cI u 8 0 = 2 ∨ cI u 8 0 = 127) := hst
    replace hs2 : zHd (s2 = 5 ∨ s2 = 6) := hs2
    replace hke : zHd (e = m ∨ K e = 0 ∨ K e = 1 ∨ K e = 2 ∨ K e = 6) := hke
    obtain ⟨m64, k2, k12, kK, kR⟩ := zTs_K HS H.2.2.2.2.2.2.1
    obtain ⟨nc, rfl⟩ : ∃ n', nc = n' + 1 := ⟨nc - 1, by omega⟩
    obtain ⟨ng, rfl⟩ : ∃ n', ng = n' + 1 := ⟨ng - 1, by omega⟩
    have hkat := ckat (F := F) (K := K) m64 k2 (fun j hj => (kK j hj).1) e (by omega)
    have hcls : cRunner_runList_75 F rec (cRunner_runList_25 F rec (nc + 1)) u (to : Int) (k : Int) inp (e : Int) = cRunner_runList_25 F rec (nc + 1) u (to : Int) (k : Int) inp (zkt K m e) ((e + 1 : Nat) : Int) := by
      unfold cRunner_runList_75
      rw [hkat]
      simp only [Option.bind_some]
      rw [show (e : Int) + 1 = ((e + 1 : Nat) : Int) by omega]
    have hto2 := (zF_in qC K m (m - e) e 0 rfl).2.1
    rw [hto] at hto2
    have h45 : rI r 45 = cI u 8 0 := H.2.2.1.1
    have hend : ∀ x, to ≤ x → x ≤ 100 → cRunner_runList_25 F rec (nc + 1) u (to : Int) (k : Int) inp (zkt K m e) (x : Int) = some (1, u) := by
      intro x hx hx2
      rw [cRunner_runList_25, if_pos (by rw [zI_le (by omega) (by omega) (by omega) (by omega)]; omega)]
    rw [hcls]
    have hlast : (e = m ∨ K e = 6) → zLsr F m n K L A B k to u r c (cRunner_runList_25 F rec (nc + 1) u (to : Int) (k : Int) inp (zkt K m e) ((e + 1 : Nat) : Int)) (Option.bind (r_goOn_0 F (ng + 1) r) fun (u10 : ZR) => r_execute_41 F (r_execute_6 F n2) N2 u10 (t2 : Int) v2) := by
      intro hl
      have hte : to = e := by
        rcases hl with rfl | h6
        · rw [← hto]; exact zF_end (Nat.le_refl _)
        · by_cases hlt : e < m
          · rw [← hto]; exact zF_hit hlt rfl (by rw [h6]; rfl)
          · rw [← hto, zF_end (by omega)]; omega
      have hg : r_goOn_0 F (ng + 1) r = some r := go_stop F ng m64 k12 kR e hem h22 (hl.imp id (fun h6 => by omega))
      rw [hend (e + 1) (by omega) (by omega), hg]
      exact ⟨1, c, u, r, rfl, Nat.le_refl _, fun _ _ => rfl, zLo_rf _ _, zLk_rf _ _, Or.inr ⟨rfl, h, n2, N2, t2, v2, rfl, H, by rw [hte]; exact h22, by rw [hte]; exact hn, hv, hst⟩⟩
    by_cases hlt : e < m
    · by_cases h6 : K e = 6
      · exact hlast (Or.inr h6)
      · have hz : zkt K m e = K e := by unfold zkt; rw [if_pos hlt]
        have hke5 : 0 ≤ K e ∧ K e ≤ 2 := by
          have hke' : e = m ∨ K e = 0 ∨ K e = 1 ∨ K e = 2 ∨ K e = 6 := hke
          omega
        have hnd : znd (K e) (k : Int) = (k : Int) := by unfold znd; rw [if_neg (by omega), if_neg (by omega)]
        have hto1 : zF qC K m (e + 1) 0 = to := by
          rw [← hto, zF_go (i := e) hlt (fun hh => h6 (of_decide_eq_true hh.2))]
          have : znd (K e) 0 = 0 := by unfold znd; rw [if_neg (by omega), if_neg (by omega)]
          rw [this]
        obtain ⟨g1, g2⟩ := zA_in hlt hA
        rw [hnd] at g2
        have hdue := due_is F u H.2.2.1.2 (K e) (by omega)
        have H22 : zRn u (tI r 22 ((e + 1 : Nat) : Int)) m n K L A B c h k := zRn_22 H _
        -- the next pipeline runs
        have hrun : ∀ s : Int, (s = 0 ∨ s = 2) → zA K m (e + 1) s k = true → e + 1 < m → cRunner_isDue F u (K e) = some 1 → r_goOn_0 F (ng + 1) r = r_startPipeline F (tI r 22 ((e + 1 : Nat) : Int)) → zLsr F m n K L A B k to u r c (cRunner_runList_25 F rec (nc + 1) u (to : Int) (k : Int) inp (zkt K m e) ((e + 1 : Nat) : Int)) (Option.bind (r_goOn_0 F (ng + 1) r) fun (u10 : ZR) => r_execute_41 F (r_execute_6 F n2) N2 u10 (t2 : Int) v2) := by
          intro s q1 q2 q3 q4 q5
          obtain ⟨w1, w2, w3⟩ := IH (e + 1) (by omega) u (tI r 22 ((e + 1 : Nat) : Int)) c h (nc + 1) n2 (t2 + 1) s (K e) H22 rfl q3 hto1 hin q1 q2 (Or.inr (by rw [Nat.add_sub_cancel]; omega)) (by omega) (by omega) (by omega) q4
          obtain ⟨S1, S2, S3⟩ := startPipe_is F (by omega) HS H22 (e + 1) (by omega) rfl
          obtain ⟨m64', k2', k12', kK', kR'⟩ := zTs_K HS S2.2.2.2.2.2.2.1
          obtain ⟨N2', hN2'⟩ : ∃ N', N2 = N' + 1 := ⟨N2 - 1, by omega⟩
          rw [q5, S1]
          simp only [Option.bind_some]
          rw [hN2', aft_go F m64' k12' kR' n2 N2' (zSPp K m (e + 1)) (t2 : Int) v2 (zSP_k _ K m k (e + 1)).1 w1 w2 (by omega), show (t2 : Int) + 1 = ((t2 + 1 : Nat) : Int) by omega, hz]
          exact zLst_tr w3 (Nat.le_refl _) (fun _ _ => rfl) (zLo_rf _ _) (zLk_22 k r _)
        have hcond : (K e = 1 ∨ K e = 2) → zLsr F m n K L A B k to u r c (cRunner_runList_25 F rec (nc + 1) u (to : Int) (k : Int) inp (zkt K m e) ((e + 1 : Nat) : Int)) (Option.bind (r_goOn_0 F (ng + 1) r) fun (u10 : ZR) => r_execute_41 F (r_execute_6 F n2) N2 u10 (t2 : Int) v2) := by
          intro h12
          have hx : znx s2 (K e) k = 2 := by
            unfold znx
            rw [if_neg (by omega), if_neg (by omega), if_neg (by omega), if_neg (by omega), if_neg (by omega), if_neg (by omega), if_neg (by omega), if_neg (by omega), if_neg (by omega)]
          rw [hx] at g2
          replace h12 := zHd_i h12
          obtain ⟨d1, d2⟩ := st_cmd (by omega) HS.2.2.1 g2 (by decide) (by decide)
          have hK6 : K (e + 1) ≠ 6 := by omega
          clear d2
          have hg := go_cond F ng (by omega) m64 k12 kR e hlt h22 h12 (by rw [h45]; exact H.2.2.1.2)
          by_cases hd : (K e = 1 ∧ rI r 45 = 0) ∨ (K e = 2 ∧ rI r 45 ≠ 0)
          · rw [if_pos hd] at hg
            refine hrun 2 (Or.inr rfl) g2 d1 ?_ hg
            rw [hdue, if_pos (by rw [h45] at hd; exact Or.inr hd)]
          · rw [if_neg hd] at hg
            rw [hg, hz]
            have hd0 : cRunner_isDue F u (K e) = some 0 := by
              rw [hdue, if_neg (by
                rw [h45] at hd
                intro hh
                rcases hh with hh | hh
                · rcases zHd_o h12 with h | h <;> rw [h] at hh <;> cases hh
                · exact hd hh)]
            replace hd := zHd_i hd
            obtain ⟨a1, a2, a3⟩ := zF_in qS K m (m - (e + 1)) (e + 1) 0 rfl
            have a1 := a1 (by omega)
            have hfind := findS F (by omega) HS H.2.2.2.2.2.2.1 (e + 1) to (by omega) hto1.symm
            obtain ⟨s3, b1, b2⟩ := st_skip (K := K) (m := m) (k : Int) (by omega) (m - (e + 1)) (e + 1) 2 0 rfl (by omega) (Int.le_refl _) (by decide) (fun _ => by decide) (by rw [Int.add_zero]; exact g2)
            have hvia := zF_viaC K m (e + 1)
            have hle : e + 1 ≤ to := by
              have := (zF_in qC K m (m - (e + 1)) (e + 1) 0 rfl).1 (by omega)
              omega
            have hnt : e + 1 ≠ to := by
              intro hh
              have c3 := (zF_in qC K m (m - (e + 1)) (e + 1) 0 rfl).2.2 (by omega)
              rw [hto1, ← hh] at c3
              exact hK6 (of_decide_eq_true c3)
            obtain ⟨e', he'⟩ : ∃ e', zF qS K m (e + 1) 0 = e' := ⟨_, rfl⟩
            rw [he'] at a1 a2 a3 hfind b2 hvia ⊢
            rw [cRunner_runList_25, if_neg (by rw [zI_le (by omega) (by omega) (by omega) (by omega)]; omega), hfind]
            simp only [Option.bind_some]
            rw [hd0]
            simp only [Option.bind_some, z00, if_true]
            rw [zmax_is (by omega) (by omega) (by omega) (by omega)]
            have hmx : (if ((e + 1 : Nat) : Int) < (e' : Int) then (e' : Int) else ((e + 1 : Nat) : Int)) = (e' : Int) := by
              split <;> omega
            rw [hmx]
            have hr := ih (m - e') (by omega) e' nc ng u (tI r 22 (e' : Int)) c h n2 N2 t2 v2 s3 rfl (by omega) a2 (by omega) (by omega) (by
              by_cases hem' : e' < m
              · have := of_decide_eq_true (a3 hem')
                omega
              · omega) (by rw [hvia]; exact hto1) (zRn_22 H _) rfl hin (by omega) hv hst b1 b2
            exact zLst_tr hr (Nat.le_refl _) (fun _ _ => rfl) (zLo_rf _ _) (zLk_22 k r _)
        rcases (show e = m ∨ K e = 0 ∨ K e = 1 ∨ K e = 2 ∨ K e = 6 from hke) with hke | hke | hke | hke | hke
        · omega
        · -- ;
          have hx : znx s2 0 k = 1 := by
            unfold znx
            rw [if_neg (by omega), if_neg (by omega), if_neg (by omega), if_neg (by omega), if_neg (by omega), if_neg (by omega), if_neg (by omega), if_pos rfl]
          rw [hke, hx] at g2
          have hg := go_semi F ng m64 k12 kR e hlt h22 hke
          by_cases hl : e + 1 = m ∨ K (e + 1) = 6
          · have hte : to = e + 1 := by
              rcases hl with rfl | h6
              · rw [← hto1]; exact zF_end (Nat.le_refl _)
              · by_cases hlt2 : e + 1 < m
                · rw [← hto1]; exact zF_hit hlt2 rfl (by rw [h6]; rfl)
                · rw [← hto1, zF_end (by omega)]; omega
            rw [hend (e + 1) (by omega) (by omega), hg, if_pos hl]
            exact ⟨1, c, u, tI r 22 ((e + 1 : Nat) : Int), rfl, Nat.le_refl _, fun _ _ => rfl, zLo_rf _ _, zLk_22 _ _ _, Or.inr ⟨rfl, h, n2, N2, t2, v2, rfl, H22, by rw [hte]; rfl, by rw [hte]; omega, hv, hst⟩⟩
          · rw [if_neg hl] at hg
            have hlt2 : e + 1 < m := by omega
            refine hrun 0 (Or.inl rfl) ?_ hlt2 (by rw [hdue, if_pos (Or.inl hke)]) hg
            rw [zA_step hlt2] at g2 ⊢
            have : znx 1 (K (e + 1)) k = znx 0 (K (e + 1)) k := znx_10 (fun hh => hl (Or.inr hh))
            rw [this] at g2
            exact g2
        · exact hcond (Or.inl hke)
        · exact hcond (Or.inr hke)
        · exact absurd hke h6
    · exact hlast (Or.inl (by omega))
set_option maxHeartbeats 1000000 in
theorem list_loop (F : Nat) (hF : 500 ≤ F) (D : Nat) {m n k to inp : Nat} {K L A B : Nat → Int} (HS : zSt m n K L A B) (HLst : k < 4 → zLst F m n K L A B (k + 1) (cRunner_runList F D)) : ∀ (f p : Nat), m - p = f → zLp F m n K L A B k to inp (cRunner_runList F (D + 1)) p := by
  intro f
  induction f using Nat.strongRecOn with
  | _ f ih =>
    intro p hf u r c h nc nn t s kd H h22 hpm hto hin hs hA hprev hn ht hnc hdue
    have hs3 : 0 ≤ s ∧ s ≤ 2 ∧ s ≠ 1 := by omega
    obtain ⟨m64, k2, k12, kK, kR⟩ := zTs_K HS H.2.2.2.2.2.2.1
    replace hprev : zHd (p = 0 ∨ ¬ (7 ≤ K (p - 1) ∧ K (p - 1) ≤ 9)) := hprev
    replace hs : zHd (s = 0 ∨ s = 2) := hs
    have IHp : ∀ p', p < p' → zLp F m n K L A B k to inp (cRunner_runList F (D + 1)) p' := fun p' hp' => by
      by_cases hpm' : p' < m
      · exact ih (m - p') (by omega) p' rfl
      · intro _ _ _ _ _ _ _ _ _ _ _ hh
        omega
    obtain ⟨w1, w2, w3⟩ := pipe_sim F hF D HS HLst H h22 hs hA hpm hprev hin hn ht
    refine ⟨w1, w2, ?_⟩
    obtain ⟨nc, rfl⟩ : ∃ n', nc = n' + 1 := ⟨nc - 1, by omega⟩
    have hfind := findS F (by omega) HS H.2.2.2.2.2.2.1 p to (by omega) hto.symm
    obtain ⟨a1, a2, a3⟩ := zF_in qS K m (m - p) p 0 rfl
    have a1 := a1 (by omega)
    obtain ⟨b1, b2, b3⟩ := zF_in qC K m (m - p) p 0 rfl
    have b1 := b1 (by omega)
    rw [hto] at b1 b2 b3
    have hc6 : K p ≠ 6 ∧ 4 ≤ K p := by
      have c2 := (st_cmd (by omega) HS.2.2.1 hA (by omega) (by omega)).2
      omega
    have hpt : p < to := by
      by_cases hh : p = to
      · have b3' := b3 (by omega)
        rw [← hh] at b3'
        have := of_decide_eq_true b3'
        omega
      · omega
    have hvia := zF_viaC K m p
    obtain ⟨e, he⟩ : ∃ e, zF qS K m p 0 = e := ⟨_, rfl⟩
    rw [he] at a1 a2 a3 hfind hvia w3
    have hpe : p ≠ e := by
      intro hh
      have := of_decide_eq_true (a3 (by omega))
      rw [← hh] at this
      omega
    have hmx : zmax (p : Int) (e : Int) = (e : Int) := by
      rw [zmax_is (by omega) (by omega) (by omega) (by omega), if_pos (by omega)]
    have hlT : zlT u inp := Or.inl (zIp_in hin).1
    have hd1 : m - e + 1 < nc := by omega
    have hd2 : m - e < F := by omega
    have hd3 : e = m ∨ K e = 0 ∨ K e = 1 ∨ K e = 2 ∨ K e = 6 := by
      by_cases hem' : e < m
      · have := of_decide_eq_true (a3 hem')
        omega
      · omega
    have hnle : ¬ zI (to : Int) ≤ zI (p : Int) := by rw [zI_le (by omega) (by omega) (by omega) (by omega)]; omega
    obtain ⟨b, c3, u3, r3, x1, x2, x3, x4, x5, x6⟩ := w3
    have hcls : cRunner_runList_25 F (cRunner_runList F (D + 1)) (nc + 1) u (to : Int) (k : Int) inp kd (p : Int) = (if ¬ zI b = 0 then cRunner_runList_75 F (cRunner_runList F (D + 1)) (cRunner_runList_25 F (cRunner_runList F (D + 1)) nc) u3 (to : Int) (k : Int) inp (e : Int) else some (0, u3)) := by
      rw [cRunner_runList_25, if_neg hnle, hfind]
      simp only [Option.bind_some]
      rw [hdue]
      simp only [Option.bind_some, z10, if_false, hmx, if_pos hlT, x1, zb2_some]
    rw [hcls]
    rcases x6 with ⟨y1, y2, y3⟩ | ⟨y1, h2, n2, N2, t2, v2, s2, y2, y3, y4, y5, y6, y7, y8, y9, y10⟩
    · rw [y1, if_neg (not_not_intro z00), y2]
      exact ⟨0, c3, u3, r3, rfl, x2, x3, x4, x5, Or.inl ⟨rfl, rfl, y3⟩⟩
    · rw [y1, if_pos (show ¬ zI 1 = 0 by decide), y2]
      have hgo := go_loop F hF (to := to) (inp := inp) (cRunner_runList F (D + 1)) HS p IHp (m - e) e nc F u3 r3 c3 h2 n2 N2 t2 v2 s2 rfl a1 a2 hd1 hd2 hd3 (by rw [hvia]; exact hto) y3 y4 (by rw [y8]; exact hin) y5 y6 y7 y9 y10
      exact zLst_tr hgo x2 x3 x4 x5
theorem list_sim (F : Nat) (hF : 500 ≤ F) {m n : Nat} {K L A B : Nat → Int} (HS : zSt m n K L A B) : ∀ (D k : Nat), k + D = 4 → zLst F m n K L A B k (cRunner_runList F (D + 1)) := by
  intro D
  induction D with
  | zero =>
    intro k hk u r c h p inp nn t H h22 hpm hin hA hprev hn ht
    obtain ⟨-, -, w⟩ := list_loop F hF 0 (k := k) (to := zF qC K m p 0) (inp := inp) HS (fun hh => by omega) (m - p) p rfl u r c h F nn t 0 0 H h22 hpm rfl hin (Or.inl rfl) hA hprev hn ht (by have := HS.1; have := HS.2.1; omega) (due_is F u H.2.2.1.2 0 (Or.inl rfl))
    exact w
  | succ D ih =>
    intro k hk u r c h p inp nn t H h22 hpm hin hA hprev hn ht
    obtain ⟨-, -, w⟩ := list_loop F hF (D + 1) (k := k) (to := zF qC K m p 0) (inp := inp) HS (fun hh => ih (k + 1) (by omega)) (m - p) p rfl u r c h F nn t 0 0 H h22 hpm rfl hin (Or.inl rfl) hA hprev hn ht (by have := HS.1; have := HS.2.1; omega) (due_is F u H.2.2.1.2 0 (Or.inl rfl))
    exact w
