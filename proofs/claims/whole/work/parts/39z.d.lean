/-! the end of a pipeline; from one command of it to the next -/
theorem addAll_T (F : Nat) {u : ZC} {t o : Nat} {v w : List Int} (hl : zlT u t) (hlo : zlT u o) (hc : cN u t ≤ 200) (hco : cN u o ≤ 200) (hne : o ≠ t) (G : zT u t v) (hT : zT u o w) :
    (v.length + w.length ≤ cN u t → ∃ u2, cText_addAll F u t o = some (1, u2) ∧ zT u2 t (v ++ w) ∧ zFr t t 0 0 u u2) ∧ (¬ v.length + w.length ≤ cN u t → cText_addAll F u t o = some (0, sI u 1 t 1)) := by
  have g1 := G.2.1
  have g2 := hT.2.1
  have hpre : cText_addAll F u t o = (zb2 (Option.bind (if zI ((w.length : Int) - 0) ≤ zI ((cN u t : Int) - (v.length : Int)) then some false else some true) fun (b1 : Bool) => if b1 = true then some ((0 : Int), sI u 1 t 1) else if zcp u o 0 t (cI u 0 t) ((w.length : Int) - 0) then some ((1 : Int), sI (sCopy u o (0 : Int).toNat t (cI u 0 t).toNat ((w.length : Int) - 0).toNat) 0 t ((cI (sCopy u o (0 : Int).toNat t (cI u 0 t).toNat ((w.length : Int) - 0).toNat) 0 t) + ((w.length : Int) - 0))) else none) fun (p1 : Int) (u2 : ZC) => if zbl p1 then some (p1, u2) else none) := by
    unfold cText_addAll
    rw [if_pos hlo, if_pos hl, hT.1]
    unfold cText_addPiece
    rw [if_neg (by decide), if_neg (by rw [zI_lt0 (by omega) (by omega)]; omega), if_pos hlo, hT.1, if_neg (by rw [zI_lt (by omega) (by omega) (by omega) (by omega)]; omega), if_pos hl, G.1]
    simp only [if_pos hlo, if_pos hl, Option.bind_some]
  rw [hpre]
  refine ⟨fun hfit => ?_, fun hfit => ?_⟩
  · have hcopy : zcp u o 0 t (cI u 0 t) ((w.length : Int) - 0) := by
      refine ⟨⟨by omega, by rw [G.1]; omega, by omega⟩, ⟨by omega, by rw [G.1]; omega, by omega, by rw [G.1]; omega⟩, fun i hi => ?_⟩
      rw [show (0 : Int).toNat + i = i by omega, hT.2.2.1 i (by omega)]
      exact zOk_ch (hT.2.2.2 _ (by rw [zgE w i (by omega)]; exact List.getElem_mem _))
    rw [if_pos (by rw [zI_le (by omega) (by omega) (by omega) (by omega)]; omega)]
    simp only [Option.bind_some, reduceCtorEq, if_false, if_pos hcopy, zb2_some]
    rw [if_pos (show zbl 1 from Or.inr rfl)]
    rw [show ((w.length : Int) - 0).toNat = w.length by omega, show (cI u 0 t).toNat = v.length by rw [G.1]; omega, Int.sub_zero, show (0 : Int).toNat = 0 from rfl]
    refine ⟨_, rfl, ⟨?_, ?_, fun i hi => ?_, fun y hy => ?_⟩, ?_⟩
    · show (if 0 = 0 ∧ t = t then cI u 0 t + (w.length : Int) else _) = _
      rw [if_pos ⟨rfl, rfl⟩, G.1, List.length_append]
      omega
    · show (v ++ w).length ≤ cN u t
      rw [List.length_append]
      omega
    · rw [List.length_append] at hi
      show (if 0 = 0 ∧ t = t ∧ v.length ≤ i ∧ i < v.length + w.length then cA u 0 o (0 + (i - v.length)) else cA u 0 t i) = _
      rw [zgA]
      by_cases hiv : i < v.length
      · rw [if_neg (by omega), if_pos hiv]
        exact G.2.2.1 i hiv
      · rw [if_pos ⟨rfl, rfl, by omega, by omega⟩, if_neg hiv, Nat.zero_add]
        exact hT.2.2.1 _ (by omega)
    · rcases List.mem_append.1 hy with hy | hy
      · exact G.2.2.2 y hy
      · exact hT.2.2.2 y hy
    · refine ⟨fun f x q1 _ => ?_, fun _ _ _ => rfl, fun _ _ _ => rfl, fun f x i q1 _ => ?_, rfl, rfl⟩
      · show (if f = 0 ∧ x = t then cI u 0 t + (w.length : Int) else cI u f x) = cI u f x
        rw [if_neg (by omega)]
      · show (if f = 0 ∧ x = t ∧ v.length ≤ i ∧ i < v.length + w.length then cA u 0 o (0 + (i - v.length)) else cA u f x i) = cA u f x i
        rw [if_neg (by omega)]
  · rw [if_neg (by rw [zI_le (by omega) (by omega) (by omega) (by omega)]; omega)]
    simp only [Option.bind_some, if_true, zb2_some]
    rw [if_pos (show zbl 0 from Or.inl rfl)]
/-- the status of a pipeline -/
def zx7 (tn : Bool) (st : Int) : Int := if tn = true then (if st = 0 then 1 else 0) else st
theorem pipe_end (F : Nat) (hF : 200 ≤ F) {u : ZC} {r : ZR} {m n c h k : Nat} {K L A B : Nat → Int} (HS : zSt m n K L A B) (H : zRn u r m n K L A B c h k) (e : Nat) (he : e ≤ m) (h22 : rI r 22 = (e : Int)) (h3 : zkt K m e ≠ 3) {w : List Int} (hT : zT u (4 + 4 * k) w) (hR : rI r 35 = (w.length : Int) ∧ zRA r 34 0 w) (st : Int) (hst : st = 0 ∨ st = 1 ∨ st = 2 ∨ st = 127) (tn : Bool) (h29 : rA r 29 k = zB tn) :
    (∃ u2 r2, (zb2 (cText_addAll F (sI u 8 0 (zx7 tn st)) (3 + 4 * k) (4 + 4 * k)) fun (p8 : Int) (u9 : ZC) => if zbl p8 then some (p8, u9) else none) = some (1, u2) ∧ r_endCommand_64 F r st = (Option.bind (r_goOn F r2) fun (u10 : ZR) => some ((1 : Int), u10)) ∧ zRn u2 r2 m n K L A B c h k ∧ rI r2 22 = (e : Int) ∧ cI u2 8 0 = zx7 tn st ∧ zLo k u u2 ∧ zLk k r r2 ∧ rA r2 23 k = rA r 23 k ∧ cP u2 = cP u) ∨
    (∃ u2, (zb2 (cText_addAll F (sI u 8 0 (zx7 tn st)) (3 + 4 * k) (4 + 4 * k)) fun (p8 : Int) (u9 : ZC) => if zbl p8 then some (p8, u9) else none) = some (0, u2) ∧ r_endCommand_64 F r st = some (0, r) ∧ zRn (sI u2 8 0 0) (tI r 45 0) m n K L A B c h k ∧ zLo k u u2 ∧ cP u2 = cP u) := by
  have H0 := H
  obtain ⟨⟨HT, hc4, HL⟩, htot, hstat, hran, HB, ⟨HP, HG⟩, HTs, ⟨hk5, h21⟩, HPt⟩ := H
  have hz : zix (k : Int) 5 := ⟨by omega, by omega, by omega⟩
  obtain ⟨m64, k2, k12, kK, kR⟩ := zTs_K HS HTs
  obtain ⟨v, p1, p2, p3⟩ := HPt k (Nat.le_refl _)
  have hcapL : (cN u (3 + 4 * k) : Int) = rI r 2 := (HL.2.2.2.2.2 k hk5).1
  obtain ⟨hcap1, hcap2, hcap3⟩ := zcap HL k hk5
  have hlt : ∀ t, t < 23 → ∀ u : ZC, zlT u t := fun t ht u => Or.inl ht
  have hw96 := hT.2.1
  have hv96 := p1.2.1
  have hx7 : 0 ≤ zx7 tn st ∧ zx7 tn st ≤ 127 := by
    unfold zx7
    split
    · split <;> omega
    · omega
  have hT' : zT (sI u 8 0 (zx7 tn st)) (4 + 4 * k) w := hT
  have hp1' : zT (sI u 8 0 (zx7 tn st)) (3 + 4 * k) v := p1
  obtain ⟨f1, f2⟩ := addAll_T F (u := sI u 8 0 (zx7 tn st)) (t := 3 + 4 * k) (o := 4 + 4 * k) (hlt _ (by omega) _) (hlt _ (by omega) _) (by show cN u (3 + 4 * k) ≤ 200; omega) (by show cN u (4 + 4 * k) ≤ 200; omega) (by omega) hp1' hT'
  have hend : r_endCommand_64 F r st = if zI ((v.length : Int) + (w.length : Int)) ≤ zI (rI r 2) then r_endCommand_138 F F r st 0 else some (0, r) := by
    unfold r_endCommand_64
    rw [h22, rkat m64 k12 kR e (by omega)]
    simp only [Option.bind_some]
    have hn4 : ¬ zI (if e < m then zrk (K e) else -1) = zI 4 := by
      by_cases hem : e < m
      · have hq := zrk_eq (kR e hem).1
        have hzr := hq.2.2.2.1
        have hk3 : ¬ K e = 3 := by
          unfold zkt at h3
          rw [if_pos hem] at h3
          exact h3
        rw [if_pos hem, zI_eq (by omega) (by omega) (by omega) (by omega)]
        exact fun hh => hk3 (hq.2.2.2.2.2.2.2.1.1 hh)
      · rw [if_neg hem]; decide
    rw [if_pos hn4, h21, if_pos hz, Int.toNat_natCast, p2, hR.1]
  have hbase : ∀ (u2 : ZC) (r2 : ZR) (x : Int), 0 ≤ x ∧ x ≤ 127 → zFr (3 + 4 * k) (3 + 4 * k) 0 0 (sI u 8 0 (zx7 tn st)) u2 → zq [45] [30, 31] r r2 → rI r2 45 = x → (∀ j, j ≤ k → zPt u2 r2 j) → zRn (sI u2 8 0 x) r2 m n K L A B c h k := by
    intro u2 r2 x hx a b hb hPt2
    have hb3 : ∀ y, y < 10 → 3 + 4 * k ≠ zbt y := fun y hy => fun e => ((zbt_in y hy).2.2 k).2 e.symm
    have HT' : zTree (sI u 8 0 (zx7 tn st)) r c h := HT
    have HB' : zBs (sI u 8 0 (zx7 tn st)) r := HB
    have HL' : zlim (sI u 8 0 (zx7 tn st)) r := HL
    have HTs' : zTs (sI u 8 0 (zx7 tn st)) r m n K L A B := HTs
    have HP' : zPb (sI u 8 0 (zx7 tn st)) c := HP
    have HG' : zTg (sI u 8 0 (zx7 tn st)) c := HG
    have q1 : zTree u2 r2 c h := zTree_fr a (Or.inl (by omega)) (Or.inl (by omega)) b (by decide) (by decide) HT'
    have q2 : zlim u2 r2 := zlim_fr a b (by decide) HL'
    have q3 : zBs u2 r2 := zBs_fr a ⟨by omega, hb3⟩ ⟨by omega, hb3⟩ b (by decide) HB'
    have q4 : zTs u2 r2 m n K L A B := zTs_fr a (by omega) b (by decide) (by decide) HTs'
    have q5 : zPb u2 c := zPb_fr a HP'
    have q6 : zTg u2 c := zTg_fr a HG'
    have e7 : cI u2 7 0 = cI u 7 0 := a.1 7 0 (by omega) (by omega)
    have e5 : cI u2 5 0 = cI u 5 0 := a.1 5 0 (by omega) (by omega)
    have e4 : cI u2 4 0 = cI u 4 0 := a.1 4 0 (by omega) (by omega)
    have e9 : cI u2 9 0 = cI u 9 0 := a.1 9 0 (by omega) (by omega)
    refine ⟨⟨q1, by show (c : Int) ≤ cI u2 4 0; rw [e4]; exact hc4, q2⟩, ?_, ⟨hb, hx⟩, ?_, q3, ⟨q5, q6⟩, q4, ⟨hk5, by rw [b.1 21 (by decide)]; exact h21⟩, hPt2⟩
    · show cI u2 7 0 = zsum r2 0 13 ∧ 0 ≤ cI u2 7 0 ∧ cI u2 7 0 ≤ cI u2 5 0
      rw [e7, e5, zsum_eq (fun i => b.2.2.1 3 i (by decide)) (fun i => b.2.2.1 7 i (by decide)) 13 0]
      exact htot
    · show rI r2 48 = cI u2 9 0
      rw [e9, b.1 48 (by decide)]
      exact hran
  have hlo : ∀ u2 : ZC, zFr (3 + 4 * k) (3 + 4 * k) 0 0 (sI u 8 0 (zx7 tn st)) u2 → zLo k u u2 := by
    intro u2 a
    have h1 : zLo k u (sI u 8 0 (zx7 tn st)) := fun j hj => ⟨rfl, rfl, rfl, rfl, fun _ => rfl⟩
    exact zLo_tr h1 (zLo_fr a (fun j hj => by omega))
  by_cases hfit : v.length + w.length ≤ cN u (3 + 4 * k)
  · refine Or.inl ?_
    obtain ⟨u2, a1, a2, a3⟩ := f1 hfit
    obtain ⟨r3, c1, c2, c3, c4⟩ := copyPut F (by omega) k v.length hk5 (by omega) st w.length 0 F r (by omega) (by omega) hR.1 h21 p2 hR.2 (fun i hi => absurd hi (Nat.not_lt_zero i))
    have c1' : r_endCommand_138 F F r st 0 = (Option.bind (if ¬ zI (rA r3 29 k) = 0 then (if ¬ zI st = 0 then some (0 : Int) else some 1) else some st) fun (x9 : Int) => Option.bind (r_goOn F (tI (tA r3 31 k ((v.length + w.length : Nat) : Int)) 45 x9)) fun (u10 : ZR) => some ((1 : Int), u10)) := c1
    have hx9 : (if ¬ zI (rA r3 29 k) = 0 then (if ¬ zI st = 0 then some (0 : Int) else some 1) else some st) = some (zx7 tn st) := by
      rw [c3.2.2.1 29 k (by decide), h29]
      unfold zx7
      cases tn
      · rfl
      · rw [zB_t, if_pos z10, if_pos rfl]
        by_cases h0 : st = 0
        · rw [h0]; rfl
        · rw [if_pos (by rw [zI_eq0 (by omega) (by omega)]; exact h0), if_neg h0]
    have hq : zq [45] [30, 31] r (tI (tA r3 31 k ((v.length + w.length : Nat) : Int)) 45 (zx7 tn st)) := zq_tr (zq_tr (zq_mono c3 (by decide) (by decide)) (zq_A _ _ r3 31 _ _ (by decide))) (zq_I _ _ _ 45 _ (by decide))
    have hPt2 : ∀ j, j ≤ k → zPt u2 (tI (tA r3 31 k ((v.length + w.length : Nat) : Int)) 45 (zx7 tn st)) j := by
      intro j hj
      by_cases hjk : j = k
      · subst hjk
        refine ⟨v ++ w, a2, ?_, fun i hi => ?_⟩
        · show (if 31 = 31 ∧ j = j then ((v.length + w.length : Nat) : Int) else _) = _
          rw [if_pos ⟨rfl, rfl⟩, List.length_append]
        · rw [List.length_append] at hi
          show rA r3 30 (96 * j + i) = _
          rw [zgA]
          by_cases hiv : i < v.length
          · rw [if_pos hiv, c4 _ (by omega)]
            exact p3 i hiv
          · rw [if_neg hiv, show 96 * j + i = 96 * j + (v.length + (i - v.length)) by omega]
            exact c2 _ (by omega)
      · obtain ⟨l, l1, l2, l3⟩ := HPt j hj
        have l1' : zT (sI u 8 0 (zx7 tn st)) (3 + 4 * j) l := l1
        have hlen : l.length ≤ 96 := by have := l1.2.1; have := (HL.2.2.2.2.2 j (by omega)).1; omega
        refine ⟨l, zFr_T a3 (by omega) l1', ?_, fun i hi => ?_⟩
        · show (if 31 = 31 ∧ j = k then _ else rA r3 31 j) = _
          rw [if_neg (by omega), c3.2.2.1 31 j (by decide)]
          exact l2
        · show rA r3 30 (96 * j + i) = _
          rw [c4 _ (by omega)]
          exact l3 i hi
    have e82 : cI u2 8 0 = zx7 tn st := by rw [a3.1 8 0 (by omega) (by omega)]; rfl
    have hself : sI u2 8 0 (zx7 tn st) = u2 := by
      refine Prod.ext ?_ rfl
      funext f o
      show (if f = 8 ∧ o = 0 then zx7 tn st else u2.1 f o) = u2.1 f o
      by_cases hh : f = 8 ∧ o = 0
      · rw [if_pos hh, hh.1, hh.2]; exact e82.symm
      · rw [if_neg hh]
    have hR2 := hbase u2 _ (zx7 tn st) hx7 a3 hq rfl hPt2
    rw [hself] at hR2
    refine ⟨u2, tI (tA r3 31 k ((v.length + w.length : Nat) : Int)) 45 (zx7 tn st), ?_, ?_, hR2, ?_, e82, hlo u2 a3, zLk_q hq (by decide), hq.2.2.1 23 k (by decide), funext fun f => funext fun o => a3.2.2.1 f o (by omega)⟩
    · rw [a1]
      simp only [zb2_some]
      rw [if_pos (show zbl 1 from Or.inr rfl)]
    · rw [hend, if_pos (by rw [zI_le (by omega) (by omega) (by omega) (by omega)]; omega), c1', hx9]
      rfl
    · rw [hq.1 22 (by decide)]
      exact h22
  · refine Or.inr ?_
    have a1 := f2 hfit
    have hfr : zFr (3 + 4 * k) (3 + 4 * k) 0 0 (sI u 8 0 (zx7 tn st)) (sI (sI u 8 0 (zx7 tn st)) 1 (3 + 4 * k) 1) := zFr_I _ _ 1 1 (Or.inr rfl)
    have hq : zq [45] [30, 31] r (tI r 45 0) := zq_I _ _ r 45 0 (by decide)
    refine ⟨sI (sI u 8 0 (zx7 tn st)) 1 (3 + 4 * k) 1, ?_, ?_, hbase _ _ 0 (by decide) hfr hq rfl (fun j hj => ?_), hlo _ hfr, rfl⟩
    · rw [a1]
      simp only [zb2_some]
      rw [if_pos (show zbl 0 from Or.inl rfl)]
    · rw [hend, if_neg (by rw [zI_le (by omega) (by omega) (by omega) (by omega)]; omega)]
    · obtain ⟨l, l1, l2, l3⟩ := HPt j hj
      have l1' : zT (sI (sI u 8 0 (zx7 tn st)) 1 (3 + 4 * k) 1) (3 + 4 * j) l := l1
      exact ⟨l, l1', l2, l3⟩
/-- the output of a command becomes the input of the next -/
theorem pipe_step (F : Nat) (hF : 200 ≤ F) {u : ZC} {r : ZR} {m n c h k : Nat} {K L A B : Nat → Int} (HS : zSt m n K L A B) (H : zRn u r m n K L A B c h k) (e : Nat) (he : e < m) (h22 : rI r 22 = (e : Int)) (h3 : K e = 3) {w : List Int} (hT : zT u (4 + 4 * k) w) (hR : rI r 35 = (w.length : Int) ∧ zRA r 34 0 w) (st : Int) :
    ∃ u1 p u2 r2, cText_clear F u (5 + 4 * k) = some u1 ∧ cText_addAll F u1 (5 + 4 * k) (4 + 4 * k) = some (p, u2) ∧ r_endCommand_64 F r st = some (1, r2) ∧ zRn u2 r2 m n K L A B c h k ∧ rI r2 22 = ((e + 1 : Nat) : Int) ∧ zIp (5 + 4 * k) (rA r2 25 k) ∧ zLo k u u2 ∧ zLk k r r2 ∧ (rA r2 28 k = rA r 28 k ∧ rA r2 29 k = rA r 29 k ∧ rA r2 23 k = rA r 23 k) ∧ cP u2 = cP u := by
  have H0 := H
  obtain ⟨⟨HT, hc4, HL⟩, htot, hstat, hran, HB, ⟨HP, HG⟩, HTs, ⟨hk5, h21⟩, HPt⟩ := H
  have hz : zix (k : Int) 5 := ⟨by omega, by omega, by omega⟩
  obtain ⟨m64, k2, k12, kK, kR⟩ := zTs_K HS HTs
  have hN := HL.2.2.2.2.2 k hk5
  obtain ⟨hcap1, hcap2, hcap3⟩ := zcap HL k hk5
  have hw96 := hT.2.1
  have hlt : ∀ t, t < 23 → ∀ u : ZC, zlT u t := fun t ht u => Or.inl ht
  obtain ⟨u1, a1, a2, a3⟩ := clear_is F (hlt (5 + 4 * k) (by omega) u)
  have hT1 : zT u1 (4 + 4 * k) w := zFr_T a3 (by omega) hT
  have h01 : zT u1 (5 + 4 * k) [] := (a2.2.1 (Nat.zero_le _)).2
  obtain ⟨f1, -⟩ := addAll_T F (u := u1) (t := 5 + 4 * k) (o := 4 + 4 * k) (hlt _ (by omega) _) (hlt _ (by omega) _) (by rw [a3.2.2.2.2.1]; omega) (by rw [a3.2.2.2.2.1]; omega) (by omega) h01 hT1
  obtain ⟨u2, b1, b2, b3⟩ := f1 (by rw [a3.2.2.2.2.1]; show 0 + w.length ≤ _; omega)
  rw [List.nil_append] at b2
  have f12 := zFr_tr a3 b3
  have hbk : zbt (2 * k) = 5 + 4 * k := by unfold zbt; rw [if_pos (by omega)]; omega
  obtain ⟨r3, c1, c2, c3, c4⟩ := copyFill F (by omega) (2 * k) (by omega) w.length 0 F (tA r 33 (2 * k) (w.length : Int)) (by omega) (by omega) hR.1 hR.2 (fun i hi => absurd hi (Nat.not_lt_zero i))
  have c1' : r_fill F r (2 * (k : Int)) = some r3 := by
    unfold r_fill
    rw [show 2 * (k : Int) = ((2 * k : Nat) : Int) by omega, if_pos (show zix ((2 * k : Nat) : Int) 10 from ⟨by omega, by omega, by omega⟩), Int.toNat_natCast, hR.1]
    exact c1
  have qq : zq [22] [25, 32, 33] r (tI (tA r3 25 k (2 * (k : Int))) 22 ((e + 1 : Nat) : Int)) := zq_tr (zq_tr (zq_tr (zq_A _ _ r 33 _ _ (by decide)) (zq_mono c3 (by decide) (by decide))) (zq_A _ _ r3 25 _ _ (by decide))) (zq_I _ _ _ 22 _ (by decide))
  have HB2 : zBs u2 (tI (tA r3 25 k (2 * (k : Int))) 22 ((e + 1 : Nat) : Int)) := by
    refine zBs_set (b := 2 * k) (by omega) (v := w) HB (fun t ht ht23 _ l hl => ?_) (by omega) (by rw [hbk]; exact b2) ?_ (fun i hi => c2 i hi) (fun y hy => ?_) (fun y hy => ?_)
    · rw [hbk] at ht
      exact zFr_T f12 (by omega) hl
    · show rA r3 33 (2 * k) = _
      rw [c3.2.2.1 33 _ (by decide)]
      show (if 33 = 33 ∧ 2 * k = 2 * k then (w.length : Int) else _) = _
      rw [if_pos ⟨rfl, rfl⟩]
    · show rA r3 33 y = _
      rw [c3.2.2.1 33 _ (by decide)]
      show (if 33 = 33 ∧ y = 2 * k then (w.length : Int) else rA r 33 y) = _
      rw [if_neg (by omega)]
    · show rA r3 32 y = _
      rw [c4 y hy]
      rfl
  refine ⟨u1, 1, u2, tI (tA r3 25 k (2 * (k : Int))) 22 ((e + 1 : Nat) : Int), a1, b1, ?_, zRn_fr2 H0 f12 ⟨Or.inl (by omega), Or.inl (by omega), by omega, by omega⟩ (fun j hj => by omega) qq (by decide) (by decide) HB2 (zPb_fr f12 HP), rfl, Or.inr ⟨2 * k, by omega, hbk.symm, ?_⟩, zLo_fr f12 (fun j hj => by omega), fun f h1 h2 j hj => ?_, ⟨qq.2.2.1 28 k (by decide), qq.2.2.1 29 k (by decide), qq.2.2.1 23 k (by decide)⟩, ?_⟩
  · unfold r_endCommand_64
    have e21 : rI r3 21 = (k : Int) := by rw [c3.1 21 (by decide)]; exact h21
    have e22 : rI r3 22 = (e : Int) := by rw [c3.1 22 (by decide)]; exact h22
    rw [h22, rkat m64 k12 kR e (by omega), if_pos he, h3]
    simp only [Option.bind_some]
    rw [if_neg (not_not_intro (show zI (zrk 3) = zI 4 by decide)), h21, c1']
    have e22' : ∀ v, rI (tA r3 25 k v) 22 = (e : Int) := fun _ => e22
    simp only [Option.bind_some, e21, if_pos hz, Int.toNat_natCast, e22']
    rw [show (e : Int) + 1 = ((e + 1 : Nat) : Int) by omega]
  · show (if 25 = 25 ∧ k = k then 2 * (k : Int) else _) = _
    rw [if_pos ⟨rfl, rfl⟩]
    omega
  · by_cases h25 : f = 25
    · subst h25
      show (if 25 = 25 ∧ j = k then _ else rA r3 25 j) = _
      rw [if_neg (by omega), c3.2.2.1 25 j (by decide)]
      rfl
    · have : f = 23 ∨ f = 24 ∨ f = 26 ∨ f = 27 ∨ f = 28 ∨ f = 29 := by omega
      rcases this with rfl | rfl | rfl | rfl | rfl | rfl
      · exact qq.2.2.1 23 j (by decide)
      · exact qq.2.2.1 24 j (by decide)
      · exact qq.2.2.1 26 j (by decide)
      · exact qq.2.2.1 27 j (by decide)
      · exact qq.2.2.1 28 j (by decide)
      · exact qq.2.2.1 29 j (by decide)
  · funext f o
    exact f12.2.2.1 f o (by omega)
