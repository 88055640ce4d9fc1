def zlk : List Nat := [56, 116, 19, 30, 35, 39, 43, 47, 52]
theorem zl_1 : ∀ i, i < 9 → Cond.exactly (.string "TreeShell$Tools" (zlk.getD i 0)) "java/lang/String" ∈ flatC (Jvm.Cond.and given_1 narrow_1) := by decide +kernel
theorem zl_2 : ∀ i, i < 9 → Cond.eq (.field (.string "TreeShell$Tools" (zlk.getD i 0)) "java/lang/String" "coder" "B") (.int 0) ∈ flatC (Jvm.Cond.and given_1 narrow_1) := by decide +kernel
theorem zl_3 : ∀ i, i < 9 → Cond.arrayOf (.field (.string "TreeShell$Tools" (zlk.getD i 0)) "java/lang/String" "value" "[B") .byte ∈ flatC (Jvm.Cond.and given_1 narrow_1) := by decide +kernel
theorem zl_4 : ∀ i, i < 9 → Cond.eq (.length (.field (.string "TreeShell$Tools" (zlk.getD i 0)) "java/lang/String" "value" "[B")) (.int (Int32.ofNat (zsn.getD i 0))) ∈ flatC (Jvm.Cond.and given_1 narrow_1) := by decide +kernel
theorem zl_5 : ∀ i, i < 9 → ∀ j, j < zsn.getD i 0 → Cond.eq (.elem (.field (.string "TreeShell$Tools" (zlk.getD i 0)) "java/lang/String" "value" "[B") (.int (Int32.ofNat j))) (.int ((zsb.getD i []).getD j 0)) ∈ flatC (Jvm.Cond.and given_1 narrow_1) := by decide +kernel
theorem zl_6 : ∀ i, i < 9 → ∀ j, j < 9 → i ≠ j → Cond.not (Cond.eq (.string "TreeShell$Tools" (zlk.getD i 0)) (.string "TreeShell$Tools" (zlk.getD j 0))) ∈ flatC (Jvm.Cond.and given_1 narrow_1) ∨ Cond.not (Cond.eq (.string "TreeShell$Tools" (zlk.getD j 0)) (.string "TreeShell$Tools" (zlk.getD i 0))) ∈ flatC (Jvm.Cond.and given_1 narrow_1) := by decide +kernel
set_option maxRecDepth 100000 in
theorem z_X {s : State} {b : Nat} (hts : ∀ w ∈ lw_tbl, w.before #[Value.ref b] s = true) (hg : (Jvm.Cond.and given_1 narrow_1).before #[Value.ref b] s = true) : ∃ sa sv : Nat → Nat, zX s.heap.size sa sv s := by
  have hs := flat_of_before _ hg
  have hA : ∀ a : Nat, a < s.heap.size → ¬ s.heap.size ≤ a := fun a h => Nat.not_le.mpr h
  obtain ⟨sa, sv, hS, hev⟩ := vk_Sof (args := #[Value.ref b]) (s := s) (N := 9) (tm := fun i => .string "TreeShell$Tools" (zlk.getD i 0)) (len := zsn) (byt := zsb) (A := fun x => s.heap.size ≤ x) (by decide) (fun i hi => hs _ (zl_1 i hi)) (fun i hi => hs _ (zl_2 i hi)) (fun i hi => hs _ (zl_3 i hi)) (fun i hi => hs _ (zl_4 i hi)) (fun i hi j hj => hs _ (zl_5 i hi j hj)) (fun i j hi hj hij => (zl_6 i hi j hj hij).elim (fun h => Or.inl (hs _ h)) (fun h => Or.inr (hs _ h))) hA
  refine ⟨sa, sv, ⟨hS, va_Zof (hts _ (List.mem_of_getElem? (i := 583) (by decide +kernel))) (hts _ (List.mem_of_getElem? (i := 81) (by decide +kernel))) (va_eqi (hs _ (by decide +kernel))) hA, va_Zqof (hts _ (List.mem_of_getElem? (i := 599) (by decide +kernel))) (hts _ (List.mem_of_getElem? (i := 83) (by decide +kernel))) (hs _ (by decide +kernel)) hA⟩, ⟨vk_R.of (hts _ (List.mem_of_getElem? (i := 626) (by decide +kernel))) (hev 0 (by decide)), vk_R.of (hts _ (List.mem_of_getElem? (i := 653) (by decide +kernel))) (hev 1 (by decide)), vk_R.of (hts _ (List.mem_of_getElem? (i := 567) (by decide +kernel))) (hev 2 (by decide)), vk_R.of (hts _ (List.mem_of_getElem? (i := 631) (by decide +kernel))) (hev 3 (by decide)), vk_R.of (hts _ (List.mem_of_getElem? (i := 642) (by decide +kernel))) (hev 4 (by decide)), vk_R.of (hts _ (List.mem_of_getElem? (i := 648) (by decide +kernel))) (hev 5 (by decide)), vk_R.of (hts _ (List.mem_of_getElem? (i := 664) (by decide +kernel))) (hev 6 (by decide)), vk_R.of (hts _ (List.mem_of_getElem? (i := 674) (by decide +kernel))) (hev 7 (by decide)), vk_R.of (hts _ (List.mem_of_getElem? (i := 680) (by decide +kernel))) (hev 8 (by decide))⟩, va_Nw.of rfl (hts _ (List.mem_of_getElem? (i := 460) (by decide +kernel)))⟩
theorem z_range (a v k : Int) (hv : -2147483648 ≤ v ∧ v < 2147483648) (ha : 0 ≤ a ∧ a ≤ 160) (hk : a < k ∧ k ≤ 160) : a ≤ zmax a (zmin v k) ∧ zmax a (zmin v k) ≤ k := by
  unfold zmax zmin
  by_cases h : zI k < zI v
  · rw [if_pos h]
    split <;> omega
  · rw [if_neg h]
    have h2 : v ≤ k := by
      rw [zI_lt (by omega) (by omega) (by omega) (by omega)] at h
      omega
    split
    · rename_i h3
      rw [zI_lt (by omega) (by omega) (by omega) (by omega)] at h3
      omega
    · omega
/-- YOUR PART: from the entry, for every script of at most 1539 ints, the law comes to its end with true -/
theorem whole_start {p : Program} {e : Env} {s : State} {m : MethodId} {below : List Frame} {meth : Method} {c : Code} (l : Launch) {b L : Nat} {xs : Nat → Int32} (hL : L ≤ 1539) (C0 : lw_At p s m meth c b L xs) : W p l e room_1 s m #[Value.ref b] below meth c s.heap [] 0 0 (lw_Z below #[Value.ref b] s) (entryFrame m ([Value.ref b] : List Value).toArray 4) := by
  obtain ⟨hx, hb, hr, hml, hown, hts, hXs, hbl, hlocks, hg⟩ := C0
  obtain ⟨D, y, hK⟩ := z_known hts
  obtain ⟨sa, sv, hX⟩ := z_X hts hg
  have hi := fun k => zsc_in L xs k
  refine law_start (X := zX s.heap.size sa sv) (NN := 1539) 500 67 1833 (fun _ u r => zInv u r) hL (by decide) hx hb hr hml hown (fun w h => hts w (zt_in h)) hXs hbl hlocks hK (fun a U g mk h => zX_call h) (fun U H locs hS hU hw => zX_moved hX hS hU hw) (z_zxc hts) (fun _ u r v _ H => inv_type 500 (by decide) u r v H) (fun _ u r _ H => inv_wipe 500 u r H) ?_ (fun _ u r _ H => inv_check 500 (by decide) u r H) ?_ ?_ ?_ ?_ ?_ ?_ ?_ ?_ (fun _ _ _ _ H => H) (fun _ _ _ H => step_cap H.1) (by decide) (by decide) (fun ad u uo r res hf => k_cShell_enter 500 u hf) (inv_0 _ _ _ (z_range 1 _ 12 (hi 0) (by decide) (by decide)) (z_range 0 _ 160 (hi 1) (by decide) (by decide)) (z_range 8 _ 96 (hi 2) (by decide) (by decide)))
  · intro _ u r _ H
    obtain ⟨a, h1, h2, -⟩ := step_typed 500 u r H.1
    exact ⟨a, h1, h2, H⟩
  · intro _ u r _ H
    obtain ⟨a, u2, r2, h1, h2, h3⟩ := inv_enter 500 (by decide) u r H
    exact ⟨a, u2, r2, h1, h2, zgr_le (l_cShell_enter 500 u h1), h3⟩
  · intro _ u r _ H
    obtain ⟨a, h1, h2, -⟩ := step_status 500 u r H.1
    exact ⟨a, h1, h2, H⟩
  · intro _ u r _ H
    obtain ⟨a, h1, h2, -⟩ := step_length 500 u r H.1
    exact ⟨a, h1, h2, H⟩
  · intro _ u r v _ hv hv2 H
    obtain ⟨a, h1, h2, -⟩ := step_out 500 (by decide) u r v hv hv2 H.1
    exact ⟨a, h1, h2, H⟩
  · intro _ u r _ H
    obtain ⟨a, h1, h2, -⟩ := step_ran 500 u r H.1
    exact ⟨a, h1, h2, H⟩
  · intro _ u r _ H
    obtain ⟨a, h1, h2, -⟩ := step_nodes 500 (by decide) u r H.1
    exact ⟨a, h1, h2, H⟩
  · intro _ u r _ H
    obtain ⟨a, h1, h2, -⟩ := step_chars 500 (by decide) u r H.1
    exact ⟨a, h1, h2, H⟩
  · intro _ u r _ H
    obtain ⟨a, h1, h2, -⟩ := step_depth 500 (by decide) u r H.1
    exact ⟨a, h1, h2, H⟩
set_option maxHeartbeats 4000000 in
theorem lw_walk (l : Launch) (b : Addr) (xs : List Int32) : MetFree l x (headSpec (Jvm.Cond.code x code maxLocals ret :: tables_1) room_1) (lw_P b xs) (fun _ _ _ _ _ => True) lw_Q := by
  refine MetFree.of_bodyS (code := code) (maxLocals := maxLocals) (ret := ret) (by decide) ?_ ?_
  · intro args s m h hn
    obtain ⟨meth, c, h1, h2, h3, h4, h5, h6, -, -⟩ := Cond.code_spec hn (atoms_spec (ws := Jvm.Cond.code x code maxLocals ret :: tables_1) h _ List.mem_cons_self)
    exact ⟨meth, c, h1, h2, h3, h4, h5, h6⟩
  · intro p e s m args below meth c s₁ B hml0 hP _
    obtain ⟨rfl, hx, hbd, hgv⟩ := hP
    obtain ⟨scr, harrAt, hlist, hof, hsmall⟩ := hx
    obtain ⟨hcb, hkn, -, -⟩ := State.arrayAt?_spec harrAt
    have hown : s.vm.findClass R_law = some m.cls := findClass_of_methodNamed B.named
    have hts0 : ∀ c ∈ (Jvm.Cond.code x code maxLocals ret :: tables_1), c.before #[Value.ref b] s = true := atoms_spec (ws := Jvm.Cond.code x code maxLocals ret :: tables_1) B.pre
    have hts : ∀ w ∈ lw_tbl, w.before #[Value.ref b] s = true := k2_hts_sels lw_privs (fun w hw => hts0 w (List.mem_cons_of_mem _ hw)) lw_privs_ok
    have hml : c.maxLocals = 4 := B.maxLocals_eq (hts0 _ List.mem_cons_self)
    have X₀ : Stand p l e room_1 s m #[Value.ref b] below meth c s₁ [] 0 0 := Stand.of_body B
    have hh0 : s₁.heap = s.heap := by rw [B.state]; rfl
    have hsz : scr.slots.size = xs.length := by rw [← Array.length_toList, hlist, List.length_map]
    have hval : ∀ j : Nat, j < xs.length → scr.slots[j]? = some (.int (xs.getD j 0)) := fun j hj => by
      rw [← Array.getElem?_toList, hlist]
      simp [hj]
    have hbl : b < s.heap.size := (Array.getElem?_eq_some_iff.mp hcb).1
    have hX : va_X b xs.length (fun j => xs.getD j 0) s s.heap := ⟨scr, hcb, hof, hkn, hsz, hval⟩
    have K : W p l e room_1 s m #[Value.ref b] below meth c s₁.heap [] 0 0 (lw_Z below #[Value.ref b] s) (entryFrame m ([Value.ref b] : List Value).toArray 4) := by
      rw [hh0]
      exact whole_start l hbd ⟨B.exec, B.bytes, B.returns, hml, hown, hts, hX, hbl, B.notSynchronized, hgv⟩
    obtain ⟨t, a1, o, b1, b2, b3⟩ := K s₁ rfl X₀
    exact ⟨t, o, a1, b1, b2, b3⟩
theorem lw_pre_spec {args : Array Value} {s : State} (h : (Jvm.Cond.and given_1 narrow_1).before args s = true) (hr : rest_1_c.before args s = true) : ∃ (b : Addr) (xs : List Int32), lw_P b xs args s := by
  have hs := flat_of_before _ h
  have hq := flat_of_before _ hr
  have hc : (Cond.count 1).before args s = true := hs _ (by decide +kernel)
  have harr : (Cond.arrayOf (.arg 0) .int).before args s = true := hs _ (by decide +kernel)
  have hle : (Cond.le (.length (.arg 0)) (.int 1539)).before args s = true := hs _ (by decide +kernel)
  have hlen : (Cond.isInt (.length (.arg 0))).before args s = true := hq _ (by decide +kernel)
  have hall : (Cond.all (.arg 0) (.isInt (.elem (.arg 0) (.index 0)))).before args s = true := hq _ (by decide +kernel)
  obtain ⟨b, xs, hb, hx⟩ := State.ints_of_pre rfl harr hlen hall
  have hsm : xs.length < 2 ^ 31 := hx.choose_spec.2.2.2
  have hev : (Term.length (.arg 0)).eval args s none [] s = some (.int xs.length.toInt32) := hx.length_eval hb
  have hv := Cond.le_ints hev (show (Term.int 1539).eval args s none [] s = some (.int 1539) from rfl)
  have hd : xs.length.toInt32 ≤ 1539 := by
    simpa [Cond.before, Cond.holds, hv] using hle
  have hN : xs.length ≤ 1539 := (Int32.ofNat_le_ofNat hsm (by decide)).mp (show Int32.ofNat xs.length ≤ Int32.ofNat 1539 from hd)
  exact ⟨b, xs, Cond.one_arg hc (show args[0]? = some (.ref b) from hb), hx, hN, h⟩
theorem lw_comes (l : Launch) : Comes l x (Jvm.Cond.code x code maxLocals ret :: tables_1) room_1 (fun tb e args s => Calls_1 tb e args s ∧ rest_1 tb e args s ∧ Pre_1 tb e args s)
    (fun _ _ args s o t => lw_Q args s o t) := by
  intro p e ha hc hk s m args below hf hfit hheap happ hpre
  obtain ⟨b, xs, hP⟩ := lw_pre_spec hpre.2.2 hpre.2.1
  obtain ⟨k, o, h1, h2, h3, hQ⟩ := lw_walk l b xs p e ha hc hk s m args below hf ((Spec.applies_iff_loose hf).mp happ).1 hP trivial
  exact ⟨k, o, h1, h2, h3, hQ⟩
theorem lw_frame {s t : State} {o : Outcome} {args : Array Value} (h : Framed s o t [] 600000 7302250) :
    Framed s o t (fieldLocs frame_1_writes args s ++ arrayLocs frame_1_arrays args s ++ staticLocs frame_1_statics s) 600000 7302250 := h
theorem lw_limb (L : Cond) (hL : ∀ (args : Array Value) (s t : State), L.after args s (.returned (some (.int 1))) t = true) :
    ArmFor flags0 classFile x code maxLocals ret World_1 tables_1 room_1 Calls_1 rest_1 Pre_1
      (fun tb e a s o t => postC L tb e a s o t ∧ Framed s o t (fieldLocs frame_1_writes a s ++ arrayLocs frame_1_arrays a s ++ staticLocs frame_1_statics s) 600000 7302250) := by
  intro l _ _ _ p e ha hc hk s m args below hf hfit hheap happ hpre
  obtain ⟨k, o, h1, h2, h3, rfl, hF⟩ := lw_comes l p e ha hc hk s m args below hf hfit hheap happ hpre
  exact ⟨k, _, h1, h2, h3, hL args s _, lw_frame hF⟩
theorem i_vc : Claimed_1_1 ∧ Claimed_1_2 := ⟨lw_limb limb_1_1 (fun args s t => by simp [limb_1_1, Cond.after, Cond.holds, Cond.value]), lw_limb limb_1_2 (fun args s t => Cond.after_iff.mpr (by
  first | (rw [show limb_1_2 = Cond.eq .result (.int 1) from rfl, Cond.eq_ints (x := 1) (y := 1) rfl rfl]; simp; done) | (simp [limb_1_2, Cond.value, Term.eval]; done)))⟩
