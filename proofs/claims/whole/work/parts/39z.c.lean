/-! pieces of the reference's loop -/
theorem rkat {F : Nat} {r : ZR} {m : Nat} {K : Nat → Int} (hm64 : m ≤ 64) (h12 : rI r 12 = (m : Int)) (hK : ∀ j, j < m → (0 ≤ K j ∧ K j ≤ 10) ∧ rA r 13 j = zrk (K j)) (i : Nat) (hi : i ≤ 100) : r_kindAt F r (i : Int) = some (if i < m then zrk (K i) else -1) := by
  unfold r_kindAt
  rw [h12]
  by_cases h : i < m
  · rw [if_neg (by rw [zI_le (by omega) (by omega) (by omega) (by omega)]; omega), if_pos h, if_pos (show zix (i : Int) 64 from ⟨by omega, by omega, by omega⟩), Int.toNat_natCast, (hK i h).2]
    rfl
  · rw [if_pos (by rw [zI_le (by omega) (by omega) (by omega) (by omega)]; omega), if_neg h]
    rfl
/-- a pipeline begins -/
def zSPp (K : Nat → Int) (m p : Nat) : Nat := if p < m ∧ K p = 4 then p + 1 else p
def zSP (r : ZR) (K : Nat → Int) (m k p : Nat) : ZR := tA (tA (tI (tA r 29 k (zB (decide (p < m ∧ K p = 4)))) 22 (zSPp K m p : Int)) 28 k (zB (decide (zkt K m (zF qP K m (zSPp K m p) 0) = 3)))) 25 k (rA r 23 k)
theorem zSP_q (r : ZR) (K : Nat → Int) (m k p : Nat) : zq [22] [25, 28, 29] r (zSP r K m k p) := zq_tr (zq_tr (zq_tr (zq_A _ _ r 29 k _ (by decide)) (zq_I _ _ _ 22 _ (by decide))) (zq_A _ _ _ 28 k _ (by decide))) (zq_A _ _ _ 25 k _ (by decide))
theorem zSP_k (r : ZR) (K : Nat → Int) (m k p : Nat) : rI (zSP r K m k p) 22 = (zSPp K m p : Int) ∧ rA (zSP r K m k p) 25 k = rA r 23 k ∧ rA (zSP r K m k p) 28 k = zB (decide (zkt K m (zF qP K m (zSPp K m p) 0) = 3)) ∧ rA (zSP r K m k p) 29 k = zB (decide (p < m ∧ K p = 4)) ∧ ∀ f i, i ≠ k → rA (zSP r K m k p) f i = rA r f i := by
  refine ⟨rfl, ?_, ?_, ?_, fun f i hi => ?_⟩
  · show (if 25 = 25 ∧ k = k then rA r 23 k else _) = _
    rw [if_pos ⟨rfl, rfl⟩]
  · show (if 28 = 25 ∧ k = k then rA r 23 k else if 28 = 28 ∧ k = k then zB (decide (zkt K m (zF qP K m (zSPp K m p) 0) = 3)) else _) = _
    rw [if_neg (by omega), if_pos ⟨rfl, rfl⟩]
  · show (if 29 = 25 ∧ k = k then rA r 23 k else if 29 = 28 ∧ k = k then zB (decide (zkt K m (zF qP K m (zSPp K m p) 0) = 3)) else if 29 = 29 ∧ k = k then zB (decide (p < m ∧ K p = 4)) else _) = _
    rw [if_neg (by omega), if_neg (by omega), if_pos ⟨rfl, rfl⟩]
  · show (if f = 25 ∧ i = k then rA r 23 k else if f = 28 ∧ i = k then zB (decide (zkt K m (zF qP K m (zSPp K m p) 0) = 3)) else if f = 29 ∧ i = k then zB (decide (p < m ∧ K p = 4)) else rA r f i) = _
    rw [if_neg (by omega), if_neg (by omega), if_neg (by omega)]
theorem startPipe_is (F : Nat) (hF : 200 ≤ F) {u : ZC} {r : ZR} {m n c h k : Nat} {K L A B : Nat → Int} (HS : zSt m n K L A B) (H : zRn u r m n K L A B c h k) (p : Nat) (hp : p ≤ m) (h22 : rI r 22 = (p : Int)) : r_startPipeline F r = some (zSP r K m k p) ∧ zRn u (zSP r K m k p) m n K L A B c h k ∧ zLk k r (zSP r K m k p) := by
  have hk5 : k < 5 := H.2.2.2.2.2.2.2.1.1
  have h21 : rI r 21 = (k : Int) := H.2.2.2.2.2.2.2.1.2
  have hz : zix (k : Int) 5 := ⟨by omega, by omega, by omega⟩
  obtain ⟨m64, k2, k12, kK, kR⟩ := zTs_K HS H.2.2.2.2.2.2.1
  refine ⟨?_, zRn_fr H (zFr_rf 7777 7777 0 0 u) ⟨Or.inr (Or.inr rfl), Or.inr (Or.inr rfl)⟩ (zSP_q r K m k p) (by decide) (by decide) H.2.2.2.2.2.1.1, fun f _ _ j hj => (zSP_k r K m k p).2.2.2.2 f j (by omega)⟩
  have htn : (if ¬ zI (if p < m then zrk (K p) else -1) = zI 10 then some (0 : Int) else some 1) = some (zB (decide (p < m ∧ K p = 4))) := by
    by_cases hpm : p < m
    · have hq := zrk_eq (kR p hpm).1
      have hzr := hq.2.2.2.1
      rw [if_pos hpm]
      by_cases h4 : K p = 4
      · rw [if_neg (not_not_intro (by rw [hq.2.2.2.2.2.2.2.2.1.2 h4])), decide_eq_true ⟨hpm, h4⟩]; rfl
      · rw [if_pos (by rw [zI_eq (by omega) (by omega) (by omega) (by omega)]; exact fun hh => h4 (hq.2.2.2.2.2.2.2.2.1.1 hh)), decide_eq_false (fun hh => h4 hh.2)]; rfl
    · rw [if_neg hpm, if_pos (by decide), decide_eq_false (fun hh => hpm hh.1)]; rfl
  have hpp : ∀ b : Bool, (if zI (zB b) = 0 then some (p : Int) else some ((p : Int) + 1)) = some ((if b = true then p + 1 else p : Nat) : Int) := by
    intro b
    cases b
    · rfl
    · rfl
  have hpe : (if decide (p < m ∧ K p = 4) = true then p + 1 else p) = zSPp K m p := by
    unfold zSPp
    by_cases hh : p < m ∧ K p = 4
    · rw [decide_eq_true hh, if_pos rfl, if_pos hh]
    · rw [decide_eq_false hh, if_neg (by decide), if_neg hh]
  have hSl : zSPp K m p ≤ m := by unfold zSPp; split <;> omega
  unfold r_startPipeline
  rw [h22, rkat m64 k12 kR p (by omega)]
  simp only [Option.bind_some]
  rw [htn]
  simp only [Option.bind_some]
  have hbl : ∀ b : Bool, zbl (zB b) := fun b => by
    cases b
    · exact Or.inl rfl
    · exact Or.inr rfl
  have e21 : ∀ v, rI (tA r 29 k v) 21 = (k : Int) := fun _ => h21
  have e29 : ∀ v, rA (tA r 29 k v) 29 k = v := fun v => by
    show (if 29 = 29 ∧ k = k then v else _) = v
    rw [if_pos ⟨rfl, rfl⟩]
  have e22 : ∀ v, rI (tA r 29 k v) 22 = (p : Int) := fun _ => h22
  rw [h21, if_pos hz, if_pos (hbl _), Int.toNat_natCast, e21, if_pos hz, Int.toNat_natCast, e29, e22, hpp, hpe]
  simp only [Option.bind_some]
  have e22' : ∀ x : ZR, ∀ v, rI (tI x 22 v) 22 = v := fun _ _ => rfl
  have hpl : r_pipelineEnd F (tI (tA r 29 k (zB (decide (p < m ∧ K p = 4)))) 22 (zSPp K m p : Int)) (zSPp K m p : Int) 1 = some ((zF qP K m (zSPp K m p) 0 : Nat) : Int) := pend_is (r := tI (tA r 29 k (zB (decide (p < m ∧ K p = 4)))) 22 (zSPp K m p : Int)) F (by omega) m64 k12 kR true (zSPp K m p) (by omega)
  have hle := (zF_in qP K m (m - zSPp K m p) (zSPp K m p) 0 rfl).2.1
  rw [e22', hpl]
  simp only [Option.bind_some]
  rw [rkat (r := tI (tA r 29 k (zB (decide (p < m ∧ K p = 4)))) 22 (zSPp K m p : Int)) m64 k12 kR _ (by omega)]
  simp only [Option.bind_some]
  have hmn : (if ¬ zI (if zF qP K m (zSPp K m p) 0 < m then zrk (K (zF qP K m (zSPp K m p) 0)) else -1) = zI 4 then some (0 : Int) else some 1) = some (zB (decide (zkt K m (zF qP K m (zSPp K m p) 0) = 3))) := by
    unfold zkt
    by_cases hpm : zF qP K m (zSPp K m p) 0 < m
    · have hq := zrk_eq (kR _ hpm).1
      have hzr := hq.2.2.2.1
      rw [if_pos hpm, if_pos hpm]
      by_cases h4 : K (zF qP K m (zSPp K m p) 0) = 3
      · rw [if_neg (not_not_intro (by rw [hq.2.2.2.2.2.2.2.1.2 h4])), decide_eq_true h4]; rfl
      · rw [if_pos (by rw [zI_eq (by omega) (by omega) (by omega) (by omega)]; exact fun hh => h4 (hq.2.2.2.2.2.2.2.1.1 hh)), decide_eq_false h4]; rfl
    · rw [if_neg hpm, if_neg hpm, if_pos (by decide)]; rfl
  rw [hmn]
  have e21' : ∀ v, rI (tI (tA r 29 k (zB (decide (p < m ∧ K p = 4)))) 22 v) 21 = (k : Int) := fun _ => h21
  have e21'' : ∀ v w, rI (tA (tI (tA r 29 k (zB (decide (p < m ∧ K p = 4)))) 22 v) 28 k w) 21 = (k : Int) := fun _ _ => h21
  have e23 : ∀ v w, rA (tA (tI (tA r 29 k (zB (decide (p < m ∧ K p = 4)))) 22 v) 28 k w) 23 k = rA r 23 k := fun _ _ => rfl
  simp only [Option.bind_some, e21', if_pos hz, Int.toNat_natCast, if_pos (hbl _), e21'', e23]
  rfl
/-- behind a command: on to the next, or the end of a group, or the end -/
theorem aft_go (F : Nat) {r : ZR} {m : Nat} {K : Nat → Int} (hm64 : m ≤ 64) (h12 : rI r 12 = (m : Int)) (hK : ∀ j, j < m → (0 ≤ K j ∧ K j ≤ 10) ∧ rA r 13 j = zrk (K j)) (n N p : Nat) (t v : Int) (h22 : rI r 22 = (p : Int)) (hp : p < m) (h6 : K p ≠ 6) (hv : 0 ≤ v ∧ v ≤ 1000) : r_execute_41 F (r_execute_6 F n) (N + 1) r t v = r_execute_6 F n r (t + 1) := by
  have hq := zrk_eq (hK p hp).1
  have hzr := hq.2.2.2.1
  have hvn : ¬ zI v < 0 := by rw [zI_lt0 (by omega) (by omega)]; omega
  rw [r_execute_41, h22, rkat hm64 h12 hK p (by omega), if_neg hvn, if_pos hp]
  simp only [Option.bind_some]
  rw [if_pos (show ¬ zI (zrk (K p)) = zI 9 by rw [zI_eq (by omega) (by omega) (by omega) (by omega)]; exact fun hh => h6 (hq.2.1.1 hh))]
  simp only [Option.bind_some, if_true, if_neg hvn]
  rw [h12, if_pos (by rw [zI_lt (by omega) (by omega) (by omega) (by omega)]; omega)]
  rfl
theorem aft_neg (F : Nat) (r : ZR) (n N : Nat) (t v : Int) (hv : zI v < 0) : r_execute_41 F (r_execute_6 F n) (N + 1) r t v = r_execute_6 F n r (t + 1) := by
  rw [r_execute_41, if_pos hv]
  simp only [Option.bind_some, if_true, if_pos hv]
theorem aft_end (F : Nat) {r : ZR} {m : Nat} {K : Nat → Int} (hm64 : m ≤ 64) (h12 : rI r 12 = (m : Int)) (hK : ∀ j, j < m → (0 ≤ K j ∧ K j ≤ 10) ∧ rA r 13 j = zrk (K j)) (n N : Nat) (t v : Int) (h22 : rI r 22 = (m : Int)) (hv : 0 ≤ v ∧ v ≤ 1000) : r_execute_41 F (r_execute_6 F n) (N + 1) r t v = some (1, r) := by
  have hvn : ¬ zI v < 0 := by rw [zI_lt0 (by omega) (by omega)]; omega
  rw [r_execute_41, h22, rkat hm64 h12 hK m (by omega), if_neg hvn, if_neg (Nat.lt_irrefl m)]
  simp only [Option.bind_some]
  rw [if_pos (by decide)]
  simp only [Option.bind_some, if_true, if_neg hvn]
  rw [h12, if_neg (by rw [zI_lt (by omega) (by omega) (by omega) (by omega)]; omega)]
  rfl
theorem aft_close (F : Nat) {r : ZR} {m : Nat} {K : Nat → Int} (hm64 : m ≤ 64) (h12 : rI r 12 = (m : Int)) (hK : ∀ j, j < m → (0 ≤ K j ∧ K j ≤ 10) ∧ rA r 13 j = zrk (K j)) (n N p : Nat) (t v : Int) (h22 : rI r 22 = (p : Int)) (hp : p < m) (h6 : K p = 6) (hv : 0 ≤ v ∧ v ≤ 1000) : r_execute_41 F (r_execute_6 F n) (N + 1) r t v = zb2 (r_closeGroup F r) fun (p9 : Int) (u10 : ZR) => if ¬ zI p9 = 0 then r_execute_41 F (r_execute_6 F n) N u10 t v else some (0, u10) := by
  have hvn : ¬ zI v < 0 := by rw [zI_lt0 (by omega) (by omega)]; omega
  rw [r_execute_41, h22, rkat hm64 h12 hK p (by omega), if_neg hvn, if_pos hp, h6]
  simp only [Option.bind_some]
  rw [if_neg (not_not_intro (show zI (zrk 6) = zI 9 by decide))]
  simp only [Option.bind_some, reduceCtorEq, if_false]
/-- what comes behind a pipeline -/
theorem go_stop (F n : Nat) {r : ZR} {m : Nat} {K : Nat → Int} (hm64 : m ≤ 64) (h12 : rI r 12 = (m : Int)) (hK : ∀ j, j < m → (0 ≤ K j ∧ K j ≤ 10) ∧ rA r 13 j = zrk (K j)) (e : Nat) (he : e ≤ m) (h22 : rI r 22 = (e : Int)) (hk : e = m ∨ ¬ K e ≤ 2) : r_goOn_0 F (n + 1) r = some r := by
  rw [r_goOn_0, h22, rkat hm64 h12 hK e (by omega)]
  simp only [Option.bind_some]
  by_cases hem : e < m
  · have hk2 := hk.resolve_left (by omega)
    have hq := zrk_eq (hK e hem).1
    have hzr := hq.2.2.2.1
    have n1 : ¬ zI (zrk (K e)) = zI 1 := by rw [zI_eq (by omega) (by omega) (by omega) (by omega)]; exact fun hh => by have := hq.2.2.2.2.1.1 hh; omega
    have n2 : ¬ zI (zrk (K e)) = zI 2 := by rw [zI_eq (by omega) (by omega) (by omega) (by omega)]; exact fun hh => by have := hq.2.2.2.2.2.1.1 hh; omega
    have n3 : ¬ zI (zrk (K e)) = zI 3 := by rw [zI_eq (by omega) (by omega) (by omega) (by omega)]; exact fun hh => by have := hq.2.2.2.2.2.2.1.1 hh; omega
    simp only [if_pos hem, if_pos n2, if_pos n3, if_pos n1, if_neg n2, if_neg n3, Option.bind_some, reduceCtorEq, if_false, if_pos z00, not_false_iff, if_true, n1, n2, n3, not_true]
  · simp only [if_neg hem]
    rfl
theorem go_semi (F n : Nat) {r : ZR} {m : Nat} {K : Nat → Int} (hm64 : m ≤ 64) (h12 : rI r 12 = (m : Int)) (hK : ∀ j, j < m → (0 ≤ K j ∧ K j ≤ 10) ∧ rA r 13 j = zrk (K j)) (e : Nat) (he : e < m) (h22 : rI r 22 = (e : Int)) (h0 : K e = 0) : r_goOn_0 F (n + 1) r = if e + 1 = m ∨ K (e + 1) = 6 then some (tI r 22 ((e + 1 : Nat) : Int)) else (r_startPipeline F (tI r 22 ((e + 1 : Nat) : Int))) := by
  have n2 : ¬ zI (zrk 0) = zI 2 := by decide
  have n3 : ¬ zI (zrk 0) = zI 3 := by decide
  have n1 : zI (zrk 0) = zI 1 := by decide
  rw [r_goOn_0, h22, rkat hm64 h12 hK e (by omega), if_pos he, h0]
  simp only [Option.bind_some, eq_false n2, eq_false n3, eq_true n1, not_false_iff, not_true, if_true, if_false, reduceCtorEq]
  have e12 : ∀ v, rI (tI r 22 v) 12 = (m : Int) := fun _ => h12
  have e22 : ∀ v, rI (tI r 22 v) 22 = v := fun _ => rfl
  have e13 : ∀ v i, rA (tI r 22 v) 13 i = rA r 13 i := fun _ _ => rfl
  rw [show (e : Int) + 1 = ((e + 1 : Nat) : Int) by omega]
  simp only [e12, e22, e13, Int.toNat_natCast]
  by_cases hem : e + 1 = m
  · rw [if_pos (by rw [zI_le (by omega) (by omega) (by omega) (by omega)]; omega), if_pos (Or.inl hem)]
    simp only [Option.bind_some, reduceCtorEq, if_false, if_pos z00]
  · have hq := zrk_eq (hK (e + 1) (by omega)).1
    have hzr := hq.2.2.2.1
    rw [if_neg (by rw [zI_le (by omega) (by omega) (by omega) (by omega)]; omega), if_pos (show zix ((e + 1 : Nat) : Int) 64 from ⟨by omega, by omega, by omega⟩), (hK (e + 1) (by omega)).2]
    by_cases h6 : K (e + 1) = 6
    · rw [if_pos (by rw [hq.2.1.2 h6]), if_pos (Or.inr h6)]
      simp only [Option.bind_some, reduceCtorEq, if_false, if_pos z00]
    · rw [if_neg (by rw [zI_eq (by omega) (by omega) (by omega) (by omega)]; exact fun hh => h6 (hq.2.1.1 hh)), if_neg (fun hh => hh.elim hem h6)]
      simp only [Option.bind_some, if_true, z10, if_false, tI_tI]
      cases r_startPipeline F (tI r 22 ((e + 1 : Nat) : Int)) with
      | none => rfl
      | some x => rfl
/-- && and ||: due, or left out -/
theorem go_cond (F n : Nat) (hF : 200 ≤ F) {r : ZR} {m : Nat} {K : Nat → Int} (hm64 : m ≤ 64) (h12 : rI r 12 = (m : Int)) (hK : ∀ j, j < m → (0 ≤ K j ∧ K j ≤ 10) ∧ rA r 13 j = zrk (K j)) (e : Nat) (he : e < m) (h22 : rI r 22 = (e : Int)) (h0 : K e = 1 ∨ K e = 2) (h45 : 0 ≤ rI r 45 ∧ rI r 45 ≤ 127) : r_goOn_0 F (n + 1) r = if (K e = 1 ∧ rI r 45 = 0) ∨ (K e = 2 ∧ rI r 45 ≠ 0) then r_startPipeline F (tI r 22 ((e + 1 : Nat) : Int)) else r_goOn_0 F n (tI r 22 ((zF qS K m (e + 1) 0 : Nat) : Int)) := by
  have hpl : r_pipelineEnd F r ((e + 1 : Nat) : Int) 0 = some ((zF qS K m (e + 1) 0 : Nat) : Int) := pend_is F (by omega) hm64 h12 hK false (e + 1) (by omega)
  have hs : zI (rI r 45) = 0 ↔ rI r 45 = 0 := by rw [zI_eq0 (by omega) (by omega)]
  have htail : ∀ (p6 : Int), ¬ zI p6 = zI 1 → (zI p6 = zI 2 ∨ zI p6 = zI 3) → (Option.bind (if ¬ zI p6 = zI 1 then some r else some (tI r 22 ((rI r 22) + 1))) fun (u7 : ZR) => Option.bind (Option.bind (if zI p6 = zI 2 then some true else if zI p6 = zI 3 then some true else if ¬ zI p6 = zI 1 then some false else if zI (rI u7 12) ≤ zI (rI u7 22) then some false else if zix (rI u7 22) 64 then (if zI (rA u7 13 (rI u7 22).toNat) = zI 9 then some false else some true) else none) fun (b8 : Bool) => if b8 = true then some (1 : Int) else some 0) fun (x9 : Int) => Option.bind (if zI x9 = 0 then some u7 else Option.bind (if ¬ zI p6 = zI 1 then some ((rI u7 22) + 1) else some (rI u7 22)) fun (x10 : Int) => Option.bind (r_startPipeline F (tI u7 22 x10)) fun (u11 : ZR) => some u11) fun (u12 : ZR) => some u12) = r_startPipeline F (tI r 22 ((e + 1 : Nat) : Int)) := by
    intro p6 h1 h23
    rw [if_pos h1]
    simp only [Option.bind_some]
    have : (if zI p6 = zI 2 then some true else if zI p6 = zI 3 then some true else if ¬ zI p6 = zI 1 then some false else if zI (rI r 12) ≤ zI (rI r 22) then some false else if zix (rI r 22) 64 then (if zI (rA r 13 (rI r 22).toNat) = zI 9 then some false else some true) else none) = some true := by
      by_cases h2 : zI p6 = zI 2
      · rw [if_pos h2]
      · rw [if_neg h2, if_pos (h23.resolve_left h2)]
    rw [this]
    simp only [Option.bind_some, if_true, z10, if_false, if_pos h1, h22]
    rw [show (e : Int) + 1 = ((e + 1 : Nat) : Int) by omega]
    cases r_startPipeline F (tI r 22 ((e + 1 : Nat) : Int)) with
    | none => rfl
    | some x => rfl
  rw [r_goOn_0]
  have hkat : r_kindAt F r (rI r 22) = some (zrk (K e)) := by rw [h22, rkat hm64 h12 hK e (by omega), if_pos he]
  rw [hkat]
  simp only [Option.bind_some]
  have h221 : (rI r 22) + 1 = ((e + 1 : Nat) : Int) := by omega
  rcases h0 with h0 | h0
  · rw [h0]
    have q2 : zI (zrk 1) = zI 2 := by decide
    have q3 : ¬ zI (zrk 1) = zI 3 := by decide
    have q1 : ¬ zI (zrk 1) = zI 1 := by decide
    rw [if_neg (not_not_intro q2), if_pos q3]
    by_cases hz : rI r 45 = 0
    · rw [if_neg (not_not_intro (hs.2 hz)), if_pos (Or.inl ⟨rfl, hz⟩)]
      simp only [Option.bind_some, reduceCtorEq, if_false]
      exact htail _ q1 (Or.inl q2)
    · have hcc : ¬ (((1 : Int) = 1 ∧ rI r 45 = 0) ∨ ((1 : Int) = 2 ∧ rI r 45 ≠ 0)) := by omega
      rw [if_pos (show ¬ zI (rI r 45) = 0 from fun hh => hz (hs.1 hh)), if_neg hcc]
      simp only [Option.bind_some, if_true, h221, hpl]
  · rw [h0]
    have q2 : ¬ zI (zrk 2) = zI 2 := by decide
    have q3 : zI (zrk 2) = zI 3 := by decide
    have q1 : ¬ zI (zrk 2) = zI 1 := by decide
    rw [if_pos q2, if_neg (not_not_intro q3)]
    by_cases hz : rI r 45 = 0
    · have hcc : ¬ (((2 : Int) = 1 ∧ rI r 45 = 0) ∨ ((2 : Int) = 2 ∧ rI r 45 ≠ 0)) := by omega
      rw [if_neg (not_not_intro (hs.2 hz)), if_neg hcc]
      simp only [Option.bind_some, if_true, h221, hpl]
    · rw [if_pos (fun hh => hz (hs.1 hh)), if_pos (Or.inr ⟨rfl, hz⟩)]
      simp only [Option.bind_some, reduceCtorEq, if_false]
      exact htail _ q1 (Or.inr q3)
