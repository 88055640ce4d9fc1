/-! pipelines -/
/-- hides a statement from omega -/
def zHd (p : Prop) : Prop := p
theorem zHd_i {p : Prop} (h : p) : zHd p := h
theorem zHd_o {p : Prop} (h : zHd p) : p := h
theorem zF_congr (q : Int → Bool) (K K2 : Nat → Int) (m : Nat) (h : ∀ j, j < m → K j = K2 j) : ∀ (f i : Nat) (d : Int), m - i = f → zF q K m i d = zF q K2 m i d := by
  intro f
  induction f with
  | zero => intro i d hf; rw [zF_end (by omega), zF_end (by omega)]
  | succ f ih =>
    intro i d hf
    have ek := h i (by omega)
    by_cases hc : d = 0 ∧ q (K i) = true
    · rw [zF_hit (by omega) hc.1 hc.2, zF_hit (by omega) hc.1 (by rw [← ek]; exact hc.2)]
    · have e1 := zF_go (q := q) (K := K) (m := m) (i := i) (d := d) (by omega) hc
      have e2 := zF_go (q := q) (K := K2) (m := m) (i := i) (d := d) (by omega) (by rw [← ek]; exact hc)
      rw [e1, e2, ek]
      exact ih (i + 1) _ (by omega)
theorem qP_or : (fun k => qS k || decide (k = 3)) = qP := by
  funext k
  unfold qS qP
  rw [← Bool.decide_or]
  apply decide_eq_decide.2
  omega
theorem qS_or : (fun k => qC k || decide (k = 0 ∨ k = 1 ∨ k = 2)) = qS := by
  funext k
  unfold qS qC
  rw [← Bool.decide_or]
  apply decide_eq_decide.2
  omega
theorem findP (F : Nat) (hF : 200 ≤ F) {u : ZC} {r : ZR} {m n : Nat} {K L A B : Nat → Int} (HS : zSt m n K L A B) (HT : zTs u r m n K L A B) (p to : Nat) (hp : p ≤ m) (hto : to = zF qS K m p 0) : cTokens_find F u (p : Int) (to : Int) 3 3 = some ((zF qP K m p 0 : Nat) : Int) := by
  obtain ⟨m64, k2, k12, kK, kR⟩ := zTs_K HS HT
  have hle := (zF_in qS K m (m - p) p 0 rfl).2.1
  have := cfind_is F (u := u) m64 k2 (fun j hj => by rw [(kK j hj).1]; exact (kK j hj).2) qS (fun k => decide (k = 3)) 3 3 (by decide) (by decide) (fun k h1 h2 => by simp only [decide_eq_true_eq]; omega) to (by omega) (m - p) p F 0 rfl (by omega) (by omega) (by omega) (by rw [hto]; exact (zF_congr qS _ _ m (fun j hj => (kK j hj).1) _ _ _ rfl).symm)
  rw [qP_or, zF_congr qP _ K m (fun j hj => (kK j hj).1) _ _ _ rfl] at this
  exact this
theorem findS (F : Nat) (hF : 200 ≤ F) {u : ZC} {r : ZR} {m n : Nat} {K L A B : Nat → Int} (HS : zSt m n K L A B) (HT : zTs u r m n K L A B) (p to : Nat) (hp : p ≤ m) (hto : to = zF qC K m p 0) : cTokens_find F u (p : Int) (to : Int) 0 2 = some ((zF qS K m p 0 : Nat) : Int) := by
  obtain ⟨m64, k2, k12, kK, kR⟩ := zTs_K HS HT
  have hle := (zF_in qC K m (m - p) p 0 rfl).2.1
  have := cfind_is F (u := u) m64 k2 (fun j hj => by rw [(kK j hj).1]; exact (kK j hj).2) qC (fun k => decide (k = 0 ∨ k = 1 ∨ k = 2)) 0 2 (by decide) (by decide) (fun k h1 h2 => by simp only [decide_eq_true_eq]; omega) to (by omega) (m - p) p F 0 rfl (by omega) (by omega) (by omega) (by rw [hto]; exact (zF_congr qC _ _ m (fun j hj => (kK j hj).1) _ _ _ rfl).symm)
  rw [qS_or, zF_congr qS _ K m (fun j hj => (kK j hj).1) _ _ _ rfl] at this
  exact this
/-- the same place is found -/
theorem zF_same (q p : Int → Bool) (K : Nat → Int) (m : Nat) : ∀ (f i : Nat) (d : Int), m - i = f → zF (fun k => q k || p k) K m i d < m → q (K (zF (fun k => q k || p k) K m i d)) = true → zF q K m i d = zF (fun k => q k || p k) K m i d := by
  intro f
  induction f with
  | zero =>
    intro i d hf h
    rw [zF_end (by omega)] at h
    omega
  | succ f ih =>
    intro i d hf h hq
    by_cases hc : d = 0 ∧ (q (K i) || p (K i)) = true
    · rw [zF_hit (q := fun k => q k || p k) (by omega) hc.1 hc.2] at h hq ⊢
      exact zF_hit (by omega) hc.1 hq
    · have hgo := zF_go (q := fun k => q k || p k) (K := K) (m := m) (i := i) (d := d) (by omega) hc
      rw [hgo] at h hq ⊢
      rw [zF_go (q := q) (by omega) (fun hh => hc ⟨hh.1, by rw [hh.2]; rfl⟩)]
      exact ih (i + 1) _ (by omega) h hq
theorem zF_same_m (q p : Int → Bool) (K : Nat → Int) (m : Nat) : ∀ (f i : Nat) (d : Int), m - i = f → zF (fun k => q k || p k) K m i d = m → zF q K m i d = m := by
  intro f
  induction f with
  | zero => intro i d hf _; exact zF_end (by omega)
  | succ f ih =>
    intro i d hf h
    by_cases hc : d = 0 ∧ (q (K i) || p (K i)) = true
    · rw [zF_hit (q := fun k => q k || p k) (by omega) hc.1 hc.2] at h
      omega
    · have hgo := zF_go (q := fun k => q k || p k) (K := K) (m := m) (i := i) (d := d) (by omega) hc
      rw [hgo] at h
      rw [zF_go (q := q) (by omega) (fun hh => hc ⟨hh.1, by rw [hh.2]; rfl⟩)]
      exact ih (i + 1) _ (by omega) h
theorem pipe_where (K : Nat → Int) (m p : Nat) : (zF qP K m p 0 < m ∧ K (zF qP K m p 0) = 3 ∧ zF qP K m p 0 < zF qS K m p 0 ∧ zF qS K m (zF qP K m p 0 + 1) 0 = zF qS K m p 0) ∨ (zkt K m (zF qP K m p 0) ≠ 3 ∧ zF qS K m p 0 = zF qP K m p 0) := by
  rw [← qP_or]
  obtain ⟨i1, i2, i3⟩ := zF_in (fun k => qS k || decide (k = 3)) K m (m - p) p 0 rfl
  by_cases hem : zF (fun k => qS k || decide (k = 3)) K m p 0 < m
  · have hq := i3 hem
    by_cases h3 : K (zF (fun k => qS k || decide (k = 3)) K m p 0) = 3
    · have hnx := zF_next qS (fun k => decide (k = 3)) K m (m - p) p 0 rfl hem (by rw [h3]; decide) (by rw [h3]; decide) (by rw [h3]; decide)
      have hge := (zF_in qS K m (m - (zF (fun k => qS k || decide (k = 3)) K m p 0 + 1)) (zF (fun k => qS k || decide (k = 3)) K m p 0 + 1) 0 rfl).1 (by omega)
      exact Or.inl ⟨hem, h3, by rw [hnx]; omega, hnx.symm⟩
    · refine Or.inr ⟨by unfold zkt; rw [if_pos hem]; exact h3, ?_⟩
      have hqS : qS (K (zF (fun k => qS k || decide (k = 3)) K m p 0)) = true := by
        rw [Bool.or_eq_true] at hq
        exact hq.resolve_right (fun hh => h3 (of_decide_eq_true hh))
      exact zF_same qS (fun k => decide (k = 3)) K m (m - p) p 0 rfl hem hqS
  · have hme : zF (fun k => qS k || decide (k = 3)) K m p 0 = m := by
      have := (zF_in (fun k => qS k || decide (k = 3)) K m (m - p) p 0 rfl).2.1
      omega
    refine Or.inr ⟨by unfold zkt; rw [if_neg hem]; decide, ?_⟩
    rw [hme]
    exact zF_same_m qS (fun k => decide (k = 3)) K m (m - p) p 0 rfl hme
/-- what a pipeline leaves -/
def zPip (F m n : Nat) (K L A B : Nat → Int) (k to : Nat) (u : ZC) (r : ZR) (c : Nat) (X : Option (Int × ZC)) (Y : Option (Int × ZR)) : Prop :=
  ∃ (b : Int) (c2 : Nat) (u2 : ZC) (r2 : ZR), X = some (b, u2) ∧ c ≤ c2 ∧ (∀ y, y ≤ c → cP u2 6 y = cP u 6 y) ∧ zLo k u u2 ∧ zLk k r r2 ∧
  ((b = 0 ∧ Y = some (0, r2) ∧ zFl u2 r2 m n K L A B k c) ∨
   (b = 1 ∧ ∃ (h2 n2 N2 t2 : Nat) (v2 s2 : Int), Y = (Option.bind (r_goOn F r2) fun (u10 : ZR) => r_execute_41 F (r_execute_6 F n2) N2 u10 (t2 : Int) v2) ∧ zRn u2 r2 m n K L A B c2 h2 k ∧ rI r2 22 = (to : Int) ∧ (n2 + t2 + 1 = F ∧ t2 < to ∧ k + 1 ≤ N2) ∧ (0 ≤ v2 ∧ v2 ≤ 127) ∧ (cI u2 8 0 = 0 ∨ cI u2 8 0 = 1 ∨ cI u2 8 0 = 2 ∨ cI u2 8 0 = 127) ∧ rA r2 23 k = rA r 23 k ∧ (s2 = 5 ∨ s2 = 6) ∧ zA K m to s2 k = true))
set_option maxHeartbeats 2000000 in
theorem pipe_loop (F : Nat) (hF : 500 ≤ F) (D : Nat) {m n k : Nat} {K L A B : Nat → Int} (HS : zSt m n K L A B) (HLst : k < 4 → zLst F m n K L A B (k + 1) (cRunner_runList F D)) (tn sv : Bool) : ∀ (f p nc nn t c hb inp : Nat) (u : ZC) (r : ZR) (s ended : Int), m - p = f → f + 1 < nc → zRn u r m n K L A B c hb k → rI r 22 = (p : Int) → p < m → 0 ≤ s ∧ s ≤ 3 → zA K m p s k = true → (K p = 5 ∨ (7 ≤ K p ∧ K p ≤ 10)) → (p = 0 ∨ ¬ (7 ≤ K (p - 1) ∧ K (p - 1) ≤ 9)) → zIp inp (rA r 25 k) → rA r 28 k = zB sv → rA r 29 k = zB tn → nn + t = F → t ≤ p →
    zPip F m n K L A B k (zF qS K m p 0) u r c (cRunner_runPipeline_71 F (cRunner_runList F (D + 1)) nc u ((zF qS K m p 0 : Nat) : Int) (k : Int) k (zB tn) (p : Int) (zB sv) inp ended) (r_execute_6 F nn r (t : Int)) := by
  have hm64 : m ≤ 64 := by have := HS.1; have := HS.2.1; omega
  intro f
  induction f using Nat.strongRecOn with
  | _ f ih =>
    intro p nc nn t c hb inp u r s ended hf hnc H h22 hpm hs hA hkp hprev hin h28 h29 hn ht
    obtain ⟨nc, rfl⟩ : ∃ n', nc = n' + 1 := ⟨nc - 1, by omega⟩
    have hk5 : k < 5 := H.2.2.2.2.2.2.2.1.1
    have h28' : rA r 28 k = 0 ∨ rA r 28 k = 1 := by rw [h28]; cases sv; exact Or.inl rfl; exact Or.inr rfl
    have hbc : hb ≤ c := H.1.1.2.2.2.2.2.1
    have h1u : cP u 1 0 = some hb := H.1.1.2.2.2.1
    have hcmd : p < zF qP K m p 0 ∧ zCmd F m n K L A B k hb (zF qP K m p 0) u r c (cRunner_runCommand F (cRunner_runList F (D + 1)) u (p : Int) ((zF qP K m p 0 : Nat) : Int) (k : Int) inp) (r_execute_6 F nn r (t : Int)) := by
      rcases hkp with h5 | h7
      · exact cmd_group F hF D HS H HLst p s hpm hs hA h5 h22 hin h28' nn t hn ht
      · exact cmd_simple F hF _ HS H p s hpm hs hA h7 h22 hin h28' hprev nn t hn ht
    obtain ⟨hpe, st, c2, u2, r2, x1, x2, x3, x4, x5, x6⟩ := hcmd
    replace x6 := zHd_i x6
    replace hkp := zHd_i hkp
    replace hprev := zHd_i hprev
    replace h28' := zHd_i h28'
    have hfind := findP F (by omega) HS H.2.2.2.2.2.2.1 p (zF qS K m p 0) (by omega) rfl
    obtain ⟨i1, i2, i3⟩ := zF_in qP K m (m - p) p 0 rfl
    obtain ⟨j1, j2, j3⟩ := zF_in qS K m (m - p) p 0 rfl
    -- the end of the command lies ahead of the end of the pipeline, or is it
    have hto := pipe_where K m p
    obtain ⟨e, hE⟩ : ∃ e, zF qP K m p 0 = e := ⟨_, rfl⟩
    obtain ⟨to, hT⟩ : ∃ to, zF qS K m p 0 = to := ⟨_, rfl⟩
    rw [hE, hT] at hto
    rw [hE] at hpe x1 x6 hfind i1 i2 i3
    clear i1 i3 j1 j3
    have hle : e ≤ to := by
      rcases hto with h | h
      · omega
      · omega
    replace hto := zHd_i hto
    rw [hT] at hfind j2 ⊢
    have hlO : zlO u (some hb) := by
      show decide (zlN u hb) = true
      exact decide_eq_true (zlN_of H.1.1 hbc)
    have hmax : zmax (p : Int) (e : Int) = (e : Int) := by
      rw [zmax_is (by omega) (by omega) (by omega) (by omega), if_pos (by omega)]
    have hzh : ∀ x : ZC, (if zI (zB sv) = 0 then some x else some (sP x 1 0 (some hb))) = some (zhr r k hb x) := by
      intro x
      unfold zhr
      rw [h28]
      by_cases hh : zI (zB sv) = 0
      · rw [if_pos hh, if_pos hh]
      · rw [if_neg hh, if_neg hh]
    have hcls : cRunner_runPipeline_71 F (cRunner_runList F (D + 1)) (nc + 1) u (to : Int) (k : Int) k (zB tn) (p : Int) (zB sv) inp ended = (if ¬ zI st = zI 100 then (zb2 (if zI (to : Int) ≤ zI (e : Int) then some (inp, zhr r k hb u2) else Option.bind (cText_clear F (zhr r k hb u2) (5 + 4 * k)) fun (u15 : ZC) => zb2 (cText_addAll F u15 (5 + 4 * k) (4 + 4 * k)) fun (p16 : Int) (u17 : ZC) => some ((5 + 4 * k), u17)) fun (x18 : Nat) (u19 : ZC) => cRunner_runPipeline_71 F (cRunner_runList F (D + 1)) nc u19 (to : Int) (k : Int) k (zB tn) ((e : Int) + 1) (zB sv) x18 st) else some (0, zhr r k hb u2)) := by
      rw [cRunner_runPipeline_71, if_neg (by rw [zI_le (by omega) (by omega) (by omega) (by omega)]; omega), hfind]
      simp only [Option.bind_some, h1u, if_pos hk5, if_pos (show zlT u inp from Or.inl (zIp_in hin).1), if_pos hlO, hmax, x1, zb2_some]
      rw [hzh]
      simp only [Option.bind_some]
    rw [hcls]
    have hdz : ∀ y, y ≤ c → cP (zhr r k hb u2) 6 y = cP u 6 y := fun y hy => by
      rw [← x3 y hy]
      unfold zhr
      split
      · rfl
      · rfl
    have hloz : zLo k u (zhr r k hb u2) := by
      unfold zhr
      split
      · exact x4
      · exact zLo_tr x4 (fun j hj => ⟨rfl, rfl, rfl, rfl, fun _ => rfl⟩)
    rcases zHd_o x6 with ⟨y1, y2, y3⟩ | ⟨y1, h2, w2, n2, N2, t2, v2, s2, y2, y3, y4, y5, y6, y7, y8, y9, y10, y11⟩
    · -- the line ends
      subst y1
      rw [if_neg (not_not_intro rfl), y2]
      exact ⟨0, c2, zhr r k hb u2, r2, rfl, x2, hdz, hloz, x5, Or.inl ⟨rfl, rfl, y3⟩⟩
    · rw [if_pos (by rcases y1 with h | h | h | h <;> (rw [h]; decide)), y2]
      clear x6
      have y10' : 5 ≤ s2 ∧ s2 ≤ 6 := by clear hto hkp hprev; omega
      replace y1 := zHd_i y1
      replace y10 := zHd_i y10
      obtain ⟨m64, k2, k12, kK, kR⟩ := zTs_K HS y3.2.2.2.2.2.2.1
      rcases zHd_o hto with ⟨t1, t2', t3, t4⟩ | ⟨t1, t2'⟩
      · -- on to the next command
        obtain ⟨u15, pp, u17, r3, z1, z2, z3, z4, z5, z6, z7, z8, z9, z10⟩ := pipe_step F (by omega) HS y3 e t1 y6 t2' y4 y5 st
        have hA3 : zA K m (e + 1) 3 k = true := by
          obtain ⟨g1, g2⟩ := zA_in t1 y11
          rw [t2'] at g1 g2
          have hx : znx s2 3 k = 3 := by
            unfold znx
            rw [if_neg (by omega), if_neg (by omega), if_neg (by omega), if_neg (by omega), if_neg (by omega), if_neg (by omega), if_neg (by omega), if_neg (by omega), if_pos rfl]
          rw [hx, show znd 3 (k : Int) = (k : Int) from rfl] at g2
          exact g2
        obtain ⟨c1, c2'⟩ := st_cmd (by omega) HS.2.2.1 hA3 (by decide) (by decide)
        have hkn : K (e + 1) = 5 ∨ (7 ≤ K (e + 1) ∧ K (e + 1) ≤ 10) := by omega
        obtain ⟨N2', hN2'⟩ : ∃ N', N2 = N' + 1 := ⟨N2 - 1, by omega⟩
        obtain ⟨m64', k2', k12', kK', kR'⟩ := zTs_K HS z4.2.2.2.2.2.2.1
        have hrest := ih (m - (e + 1)) (by omega) (e + 1) nc n2 (t2 + 1) c2 h2 (5 + 4 * k) u17 r3 3 st rfl (by omega) z4 z5 c1 (by decide) hA3 hkn (Or.inr (by rw [Nat.add_sub_cancel, t2']; decide)) z6 (by rw [z9.1, y9.1]; exact h28) (by rw [z9.2.1, y9.2.1]; exact h29) (by omega) (by omega)
        rw [t4] at hrest
        obtain ⟨b, c3, u4, r4, d1, d2, d3, d4, d5, d6⟩ := hrest
        have hY : zPost F n2 N2 t2 v2 (r_endCommand_64 F r2 st) = r_execute_6 F n2 r3 ((t2 + 1 : Nat) : Int) := by
          unfold zPost
          rw [z3]
          simp only [zb2_some]
          rw [if_pos (show ¬ zI 1 = 0 by decide), hN2', aft_go F m64' k12' kR' n2 N2' (e + 1) (t2 : Int) v2 z5 c1 (by omega) (by omega), show (t2 : Int) + 1 = ((t2 + 1 : Nat) : Int) by omega]
        rw [hY, if_neg (by rw [zI_le (by omega) (by omega) (by omega) (by omega)]; omega), z1]
        simp only [Option.bind_some, z2, zb2_some]
        rw [show (e : Int) + 1 = ((e + 1 : Nat) : Int) by omega]
        refine ⟨b, c3, u4, r4, d1, by omega, fun y hy => ?_, zLo_tr hloz (zLo_tr z7 d4), zLk_tr x5 (zLk_tr z8 d5), ?_⟩
        · rw [d3 y (by omega), z10]
          exact hdz y hy
        · rcases d6 with ⟨d6, d7, d8⟩ | ⟨d6, h4, n4, N4, t4', v4, s4, d7, d8, d9, d10, d11, d12, d13, d14⟩
          · obtain ⟨c5, h5, lv, f1, f2⟩ := d8
            exact Or.inl ⟨d6, d7, c5, h5, lv, by omega, f2⟩
          · exact Or.inr ⟨d6, h4, n4, N4, t4', v4, s4, d7, d8, d9, d10, d11, d12, by rw [d13, z9.2.2, y9.2.2.1], d14⟩
      · -- the pipeline ends
        obtain ⟨nc, rfl⟩ : ∃ n', nc = n' + 1 := ⟨nc - 1, by omega⟩
        rw [if_pos (by rw [zI_le (by omega) (by omega) (by omega) (by omega)]; omega)]
        simp only [zb2_some]
        have hx7 : (if zI (zB tn) = 0 then some st else Option.bind (if ¬ zI st = 0 then some (0 : Int) else some 1) fun (x6 : Int) => some x6) = some (zx7 tn st) := by
          unfold zx7
          cases tn
          · rfl
          · rw [zB_t, if_neg z10, if_pos rfl]
            rcases zHd_o y1 with h | h | h | h <;> (rw [h]; decide)
        rw [cRunner_runPipeline_71, if_pos (by rw [zI_le (by omega) (by omega) (by omega) (by omega)]; omega), hx7]
        simp only [Option.bind_some, if_pos hk5]
        have hst7 : zx7 tn st = 0 ∨ zx7 tn st = 1 ∨ zx7 tn st = 2 ∨ zx7 tn st = 127 := by
          unfold zx7
          split
          · split
            · exact Or.inr (Or.inl rfl)
            · exact Or.inl rfl
          · exact y1
        rcases pipe_end F (by omega) HS y3 e i2 y6 t1 y4 y5 st y1 tn (by rw [y9.2.1]; exact h29) with ⟨u3, r3, p1, p2, p3, p4, p5, p6, p7, p8, p9⟩ | ⟨u3, p1, p2, p3, p4, p5⟩
        · refine ⟨1, c2, u3, r3, p1, x2, fun y hy => ?_, zLo_tr hloz p6, zLk_tr x5 p7, Or.inr ⟨rfl, h2, n2, N2, t2, v2, s2, ?_, p3, by rw [p4, t2'], by rw [t2']; exact y7, y8, by rw [p5]; exact hst7, by rw [p8, y9.2.2.1], y10, by rw [t2']; exact y11⟩⟩
          · rw [p9]
            exact hdz y hy
          · unfold zPost
            rw [p2]
            cases r_goOn F r3 with
            | none => rfl
            | some x => rfl
        · refine ⟨0, c2, u3, r2, p1, x2, fun y hy => ?_, zLo_tr hloz p4, x5, Or.inl ⟨rfl, ?_, ?_⟩⟩
          · rw [p5]
            exact hdz y hy
          · unfold zPost
            rw [p2]
            rfl
          · have h9 : rI r2 9 = (h2 : Int) := y3.1.1.2.2.2.2.1
            have h21 : rI r2 21 = (k : Int) := y3.2.2.2.2.2.2.2.1.2
            refine ⟨c2, h2, k, x2, ?_, h21, Nat.le_refl _, hk5, ?_⟩
            · rw [tI_eq h9, tI_eq h21]
              exact p3
            · rw [if_pos rfl]
              by_cases h0 : zI (rA r2 28 k) = 0
              · rw [if_pos h0, h9]
              · rw [if_neg h0, y9.2.2.2]
                have h1z : cP (zhr r k hb u2) 1 0 = some h2 := y3.1.1.2.2.2.1
                rw [y9.1] at h0
                unfold zhr at h1z
                rw [if_neg h0] at h1z
                have h1z' : some hb = some h2 := h1z
                rw [Option.some.inj h1z']
