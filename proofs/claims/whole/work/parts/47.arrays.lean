section
variable {p : Program} {l : Launch} {e : Env} {R : Room} {s : State} {m : MethodId} {args : Array Value} {below : List Frame} {meth : Method} {c : Code} {H H0 : Heap} {locs : List Loc} {cells slots : Nat} {Q : State → Prop}
variable {cc : ByteArray} {pc : Nat} {ls : Array Slot} {rest : List Value} {α : Type} {o : α} {D : va_G} {B : Nat} {y : Nat → ClassId} {ad : Nat × Nat → Nat} {q : Bool} {u : ZC} {r : ZR}
theorem za_let {own : String} {t : Nat} {i : Int} (M : ZM p c cc s args m own D y) (hW : ZW D B y ad q u r H) (hi : (2, t) ∈ zid q u) (hz : zix i (cN u t)) (hd : decode cc pc = .ok (.caload, 1)) (k : W p l e R s m args below meth c H locs cells slots Q (F0 m (pc + 1) ls (.int (zI (cA u 0 t i.toNat)) :: rest))) : W p l e R s m args below meth c H locs cells slots Q (F0 m (pc) ls (.int (zI i) :: .ref (ad (2, t)) :: rest)) := by
  obtain ⟨q0, h0⟩ := zw_at (ad := ad) (y := y) (r := r) (show (2, t) ∈ zid q u from hi)
  exact va_cald M.1 M.2.1 M.2.2.2.2 hW.1 q0 1 h0 rfl (zI_in hz) hd (by rw [zI_cl hz]; exact k)
theorem zs_let {own : String} {t : Nat} {i : Int} {v : Int} (M : ZM p c cc s args m own D y) (hW : ZW D B y ad q u r H) (hS : va_S (fun x => B ≤ x) H0 H locs) (hi0 : (2, t) ∈ zid q u) (hc : zch v) (hz : zix i (cN u t)) (hd : decode cc pc = .ok (.castore, 1)) (kk : ∀ (H1 : Heap) (locs1 : List Loc), ZW D B y ad q (sA u 0 t i.toNat v) (r) H1 → va_S (fun x => B ≤ x) H0 H1 locs1 → W p l e R s m args below meth c H1 locs1 cells slots Q (F0 m (pc + 1) ls (rest))) : W p l e R s m args below meth c H locs cells slots Q (F0 m (pc) ls (.int (zI v) :: .int (zI i) :: .ref (ad (2, t)) :: rest)) := by
  have hi : (2, t) ∈ zid q u := hi0
  obtain ⟨q0, h0⟩ := zw_at (ad := ad) (y := y) (r := r) hi
  refine va_cast M.1 M.2.1 M.2.2.2.2 hW.1 hW.2 hS q0 1 h0 rfl (zI_in hz) hd (fun H1 locs1 hP hD hS => kk H1 locs1 ?_ hS)
  have E := zw_set (v := sA u 0 t i.toNat v) (w := r) (e := .inl (y 1, cN u t, .inl (upd (fun j => zI (cA u 0 t j)) i.toNat (zI v)))) hW.2 h0 hi rfl (by show (.inl (y 1, cN u t, .inl (fun j => zI (cA (sA u 0 t i.toNat v) 0 t j))) : va_E) = _; rw [cA_row]) (fun j _ hj => zo_A0 hj)
  have hP : va_P D ZCL ((zws q ad y u r).set q0 (ad (2, t), .inl (y 1, cN u t, .inl (upd (fun j => zI (cA u 0 t j)) i.toNat (zI v))))) H1 := by
    have h9 := hP
    rw [zI_cl hz, znc hc] at h9
    exact h9
  have hD : va_D (fun x => B ≤ x) ((zws q ad y u r).set q0 (ad (2, t), .inl (y 1, cN u t, .inl (upd (fun j => zI (cA u 0 t j)) i.toNat (zI v))))) := by
    have h9 := hD
    rw [zI_cl hz, znc hc] at h9
    exact h9
  rw [E] at hP hD
  exact ⟨hP, hD⟩
theorem zl_let {own : String} {t : Nat} (M : ZM p c cc s args m own D y) (hW : ZW D B y ad q u r H) (hi : (2, t) ∈ zid q u) (hd : decode cc pc = .ok (.arraylength, 1)) (k : W p l e R s m args below meth c H locs cells slots Q (F0 m (pc + 1) ls (.int (zI (cN u t : Int)) :: rest))) : W p l e R s m args below meth c H locs cells slots Q (F0 m (pc) ls (.ref (ad (2, t)) :: rest)) := by
  obtain ⟨q0, h0⟩ := zw_at (ad := ad) (y := y) (r := r) hi
  exact va_alen M.1 M.2.1 M.2.2.2.2 hW.1 q0 1 h0 (show (ztys y)[1]? = some (y 1, .char) from rfl) (show Int32.ofNat (cN u t) = zI (cN u t : Int) from Int32.ofInt_eq_ofNat.symm) hd k
theorem za_8 {own : String} {i : Int} (M : ZM p c cc s args m own D y) (hW : ZW D B y ad q u r H) (hz : zix i 64) (hd : decode cc pc = .ok (.iaload, 1)) (k : W p l e R s m args below meth c H locs cells slots Q (F0 m (pc + 1) ls (.int (zI (cA u 1 0 i.toNat)) :: rest))) : W p l e R s m args below meth c H locs cells slots Q (F0 m (pc) ls (.int (zI i) :: .ref (ad (0, 8)) :: rest)) := by
  obtain ⟨q0, h0⟩ := zw_at (ad := ad) (y := y) (r := r) (show (0, 8) ∈ zid q u from zid_f (by decide +kernel))
  exact va_iald M.1 M.2.1 M.2.2.2.2 hW.1 q0 0 h0 rfl (zI_in hz) hd (by rw [zI_cl hz]; exact k)
theorem zs_8 {own : String} {i : Int} {v : Int} (M : ZM p c cc s args m own D y) (hW : ZW D B y ad q u r H) (hS : va_S (fun x => B ≤ x) H0 H locs) (hz : zix i 64) (hd : decode cc pc = .ok (.iastore, 1)) (kk : ∀ (H1 : Heap) (locs1 : List Loc), ZW D B y ad q (sA u 1 0 i.toNat v) (r) H1 → va_S (fun x => B ≤ x) H0 H1 locs1 → W p l e R s m args below meth c H1 locs1 cells slots Q (F0 m (pc + 1) ls (rest))) : W p l e R s m args below meth c H locs cells slots Q (F0 m (pc) ls (.int (zI v) :: .int (zI i) :: .ref (ad (0, 8)) :: rest)) := by
  have hi : (0, 8) ∈ zid q u := zid_f (by decide +kernel)
  obtain ⟨q0, h0⟩ := zw_at (ad := ad) (y := y) (r := r) hi
  refine va_iast M.1 M.2.1 M.2.2.2.2 hW.1 hW.2 hS q0 0 h0 rfl (zI_in hz) hd (fun H1 locs1 hP hD hS => kk H1 locs1 ?_ hS)
  have E := zw_set (v := sA u 1 0 i.toNat v) (w := r) (e := .inl (y 0, 64, .inl (upd (fun j => zI (cA u 1 0 j)) i.toNat (zI v)))) hW.2 h0 hi rfl (by show (.inl (y 0, 64, .inl (fun j => zI (cA (sA u 1 0 i.toNat v) 1 0 j))) : va_E) = _; rw [cA_row]) (fun j _ hj => zo_A1 hj)
  have hP : va_P D ZCL ((zws q ad y u r).set q0 (ad (0, 8), .inl (y 0, 64, .inl (upd (fun j => zI (cA u 1 0 j)) i.toNat (zI v))))) H1 := by
    have h9 := hP
    rw [zI_cl hz] at h9
    exact h9
  have hD : va_D (fun x => B ≤ x) ((zws q ad y u r).set q0 (ad (0, 8), .inl (y 0, 64, .inl (upd (fun j => zI (cA u 1 0 j)) i.toNat (zI v))))) := by
    have h9 := hD
    rw [zI_cl hz] at h9
    exact h9
  rw [E] at hP hD
  exact ⟨hP, hD⟩
theorem zl_8 {own : String} (M : ZM p c cc s args m own D y) (hW : ZW D B y ad q u r H) (hd : decode cc pc = .ok (.arraylength, 1)) (k : W p l e R s m args below meth c H locs cells slots Q (F0 m (pc + 1) ls (.int (zI 64) :: rest))) : W p l e R s m args below meth c H locs cells slots Q (F0 m (pc) ls (.ref (ad (0, 8)) :: rest)) := by
  obtain ⟨q0, h0⟩ := zw_at (ad := ad) (y := y) (r := r) (show (0, 8) ∈ zid q u from zid_f (by decide +kernel))
  exact va_alen M.1 M.2.1 M.2.2.2.2 hW.1 q0 0 h0 (show (ztys y)[0]? = some (y 0, .int) from rfl) (show Int32.ofNat 64 = zI 64 by decide) hd k
theorem za_9 {own : String} {i : Int} (M : ZM p c cc s args m own D y) (hW : ZW D B y ad q u r H) (hz : zix i 64) (hd : decode cc pc = .ok (.iaload, 1)) (k : W p l e R s m args below meth c H locs cells slots Q (F0 m (pc + 1) ls (.int (zI (cA u 2 0 i.toNat)) :: rest))) : W p l e R s m args below meth c H locs cells slots Q (F0 m (pc) ls (.int (zI i) :: .ref (ad (0, 9)) :: rest)) := by
  obtain ⟨q0, h0⟩ := zw_at (ad := ad) (y := y) (r := r) (show (0, 9) ∈ zid q u from zid_f (by decide +kernel))
  exact va_iald M.1 M.2.1 M.2.2.2.2 hW.1 q0 0 h0 rfl (zI_in hz) hd (by rw [zI_cl hz]; exact k)
theorem zs_9 {own : String} {i : Int} {v : Int} (M : ZM p c cc s args m own D y) (hW : ZW D B y ad q u r H) (hS : va_S (fun x => B ≤ x) H0 H locs) (hz : zix i 64) (hd : decode cc pc = .ok (.iastore, 1)) (kk : ∀ (H1 : Heap) (locs1 : List Loc), ZW D B y ad q (sA u 2 0 i.toNat v) (r) H1 → va_S (fun x => B ≤ x) H0 H1 locs1 → W p l e R s m args below meth c H1 locs1 cells slots Q (F0 m (pc + 1) ls (rest))) : W p l e R s m args below meth c H locs cells slots Q (F0 m (pc) ls (.int (zI v) :: .int (zI i) :: .ref (ad (0, 9)) :: rest)) := by
  have hi : (0, 9) ∈ zid q u := zid_f (by decide +kernel)
  obtain ⟨q0, h0⟩ := zw_at (ad := ad) (y := y) (r := r) hi
  refine va_iast M.1 M.2.1 M.2.2.2.2 hW.1 hW.2 hS q0 0 h0 rfl (zI_in hz) hd (fun H1 locs1 hP hD hS => kk H1 locs1 ?_ hS)
  have E := zw_set (v := sA u 2 0 i.toNat v) (w := r) (e := .inl (y 0, 64, .inl (upd (fun j => zI (cA u 2 0 j)) i.toNat (zI v)))) hW.2 h0 hi rfl (by show (.inl (y 0, 64, .inl (fun j => zI (cA (sA u 2 0 i.toNat v) 2 0 j))) : va_E) = _; rw [cA_row]) (fun j _ hj => zo_A2 hj)
  have hP : va_P D ZCL ((zws q ad y u r).set q0 (ad (0, 9), .inl (y 0, 64, .inl (upd (fun j => zI (cA u 2 0 j)) i.toNat (zI v))))) H1 := by
    have h9 := hP
    rw [zI_cl hz] at h9
    exact h9
  have hD : va_D (fun x => B ≤ x) ((zws q ad y u r).set q0 (ad (0, 9), .inl (y 0, 64, .inl (upd (fun j => zI (cA u 2 0 j)) i.toNat (zI v))))) := by
    have h9 := hD
    rw [zI_cl hz] at h9
    exact h9
  rw [E] at hP hD
  exact ⟨hP, hD⟩
theorem zl_9 {own : String} (M : ZM p c cc s args m own D y) (hW : ZW D B y ad q u r H) (hd : decode cc pc = .ok (.arraylength, 1)) (k : W p l e R s m args below meth c H locs cells slots Q (F0 m (pc + 1) ls (.int (zI 64) :: rest))) : W p l e R s m args below meth c H locs cells slots Q (F0 m (pc) ls (.ref (ad (0, 9)) :: rest)) := by
  obtain ⟨q0, h0⟩ := zw_at (ad := ad) (y := y) (r := r) (show (0, 9) ∈ zid q u from zid_f (by decide +kernel))
  exact va_alen M.1 M.2.1 M.2.2.2.2 hW.1 q0 0 h0 (show (ztys y)[0]? = some (y 0, .int) from rfl) (show Int32.ofNat 64 = zI 64 by decide) hd k
theorem za_10 {own : String} {i : Int} (M : ZM p c cc s args m own D y) (hW : ZW D B y ad q u r H) (hz : zix i 64) (hd : decode cc pc = .ok (.iaload, 1)) (k : W p l e R s m args below meth c H locs cells slots Q (F0 m (pc + 1) ls (.int (zI (cA u 3 0 i.toNat)) :: rest))) : W p l e R s m args below meth c H locs cells slots Q (F0 m (pc) ls (.int (zI i) :: .ref (ad (0, 10)) :: rest)) := by
  obtain ⟨q0, h0⟩ := zw_at (ad := ad) (y := y) (r := r) (show (0, 10) ∈ zid q u from zid_f (by decide +kernel))
  exact va_iald M.1 M.2.1 M.2.2.2.2 hW.1 q0 0 h0 rfl (zI_in hz) hd (by rw [zI_cl hz]; exact k)
theorem zs_10 {own : String} {i : Int} {v : Int} (M : ZM p c cc s args m own D y) (hW : ZW D B y ad q u r H) (hS : va_S (fun x => B ≤ x) H0 H locs) (hz : zix i 64) (hd : decode cc pc = .ok (.iastore, 1)) (kk : ∀ (H1 : Heap) (locs1 : List Loc), ZW D B y ad q (sA u 3 0 i.toNat v) (r) H1 → va_S (fun x => B ≤ x) H0 H1 locs1 → W p l e R s m args below meth c H1 locs1 cells slots Q (F0 m (pc + 1) ls (rest))) : W p l e R s m args below meth c H locs cells slots Q (F0 m (pc) ls (.int (zI v) :: .int (zI i) :: .ref (ad (0, 10)) :: rest)) := by
  have hi : (0, 10) ∈ zid q u := zid_f (by decide +kernel)
  obtain ⟨q0, h0⟩ := zw_at (ad := ad) (y := y) (r := r) hi
  refine va_iast M.1 M.2.1 M.2.2.2.2 hW.1 hW.2 hS q0 0 h0 rfl (zI_in hz) hd (fun H1 locs1 hP hD hS => kk H1 locs1 ?_ hS)
  have E := zw_set (v := sA u 3 0 i.toNat v) (w := r) (e := .inl (y 0, 64, .inl (upd (fun j => zI (cA u 3 0 j)) i.toNat (zI v)))) hW.2 h0 hi rfl (by show (.inl (y 0, 64, .inl (fun j => zI (cA (sA u 3 0 i.toNat v) 3 0 j))) : va_E) = _; rw [cA_row]) (fun j _ hj => zo_A3 hj)
  have hP : va_P D ZCL ((zws q ad y u r).set q0 (ad (0, 10), .inl (y 0, 64, .inl (upd (fun j => zI (cA u 3 0 j)) i.toNat (zI v))))) H1 := by
    have h9 := hP
    rw [zI_cl hz] at h9
    exact h9
  have hD : va_D (fun x => B ≤ x) ((zws q ad y u r).set q0 (ad (0, 10), .inl (y 0, 64, .inl (upd (fun j => zI (cA u 3 0 j)) i.toNat (zI v))))) := by
    have h9 := hD
    rw [zI_cl hz] at h9
    exact h9
  rw [E] at hP hD
  exact ⟨hP, hD⟩
theorem zl_10 {own : String} (M : ZM p c cc s args m own D y) (hW : ZW D B y ad q u r H) (hd : decode cc pc = .ok (.arraylength, 1)) (k : W p l e R s m args below meth c H locs cells slots Q (F0 m (pc + 1) ls (.int (zI 64) :: rest))) : W p l e R s m args below meth c H locs cells slots Q (F0 m (pc) ls (.ref (ad (0, 10)) :: rest)) := by
  obtain ⟨q0, h0⟩ := zw_at (ad := ad) (y := y) (r := r) (show (0, 10) ∈ zid q u from zid_f (by decide +kernel))
  exact va_alen M.1 M.2.1 M.2.2.2.2 hW.1 q0 0 h0 (show (ztys y)[0]? = some (y 0, .int) from rfl) (show Int32.ofNat 64 = zI 64 by decide) hd k
theorem za_11 {own : String} {i : Int} (M : ZM p c cc s args m own D y) (hW : ZW D B y ad q u r H) (hz : zix i 64) (hd : decode cc pc = .ok (.iaload, 1)) (k : W p l e R s m args below meth c H locs cells slots Q (F0 m (pc + 1) ls (.int (zI (cA u 4 0 i.toNat)) :: rest))) : W p l e R s m args below meth c H locs cells slots Q (F0 m (pc) ls (.int (zI i) :: .ref (ad (0, 11)) :: rest)) := by
  obtain ⟨q0, h0⟩ := zw_at (ad := ad) (y := y) (r := r) (show (0, 11) ∈ zid q u from zid_f (by decide +kernel))
  exact va_iald M.1 M.2.1 M.2.2.2.2 hW.1 q0 0 h0 rfl (zI_in hz) hd (by rw [zI_cl hz]; exact k)
theorem zs_11 {own : String} {i : Int} {v : Int} (M : ZM p c cc s args m own D y) (hW : ZW D B y ad q u r H) (hS : va_S (fun x => B ≤ x) H0 H locs) (hz : zix i 64) (hd : decode cc pc = .ok (.iastore, 1)) (kk : ∀ (H1 : Heap) (locs1 : List Loc), ZW D B y ad q (sA u 4 0 i.toNat v) (r) H1 → va_S (fun x => B ≤ x) H0 H1 locs1 → W p l e R s m args below meth c H1 locs1 cells slots Q (F0 m (pc + 1) ls (rest))) : W p l e R s m args below meth c H locs cells slots Q (F0 m (pc) ls (.int (zI v) :: .int (zI i) :: .ref (ad (0, 11)) :: rest)) := by
  have hi : (0, 11) ∈ zid q u := zid_f (by decide +kernel)
  obtain ⟨q0, h0⟩ := zw_at (ad := ad) (y := y) (r := r) hi
  refine va_iast M.1 M.2.1 M.2.2.2.2 hW.1 hW.2 hS q0 0 h0 rfl (zI_in hz) hd (fun H1 locs1 hP hD hS => kk H1 locs1 ?_ hS)
  have E := zw_set (v := sA u 4 0 i.toNat v) (w := r) (e := .inl (y 0, 64, .inl (upd (fun j => zI (cA u 4 0 j)) i.toNat (zI v)))) hW.2 h0 hi rfl (by show (.inl (y 0, 64, .inl (fun j => zI (cA (sA u 4 0 i.toNat v) 4 0 j))) : va_E) = _; rw [cA_row]) (fun j _ hj => zo_A4 hj)
  have hP : va_P D ZCL ((zws q ad y u r).set q0 (ad (0, 11), .inl (y 0, 64, .inl (upd (fun j => zI (cA u 4 0 j)) i.toNat (zI v))))) H1 := by
    have h9 := hP
    rw [zI_cl hz] at h9
    exact h9
  have hD : va_D (fun x => B ≤ x) ((zws q ad y u r).set q0 (ad (0, 11), .inl (y 0, 64, .inl (upd (fun j => zI (cA u 4 0 j)) i.toNat (zI v))))) := by
    have h9 := hD
    rw [zI_cl hz] at h9
    exact h9
  rw [E] at hP hD
  exact ⟨hP, hD⟩
theorem zl_11 {own : String} (M : ZM p c cc s args m own D y) (hW : ZW D B y ad q u r H) (hd : decode cc pc = .ok (.arraylength, 1)) (k : W p l e R s m args below meth c H locs cells slots Q (F0 m (pc + 1) ls (.int (zI 64) :: rest))) : W p l e R s m args below meth c H locs cells slots Q (F0 m (pc) ls (.ref (ad (0, 11)) :: rest)) := by
  obtain ⟨q0, h0⟩ := zw_at (ad := ad) (y := y) (r := r) (show (0, 11) ∈ zid q u from zid_f (by decide +kernel))
  exact va_alen M.1 M.2.1 M.2.2.2.2 hW.1 q0 0 h0 (show (ztys y)[0]? = some (y 0, .int) from rfl) (show Int32.ofNat 64 = zI 64 by decide) hd k
theorem za_lev {own : String} {i : Int} (M : ZM p c cc s args m own D y) (hW : ZW D B y ad q u r H) (hz : zix i 5) (hd : decode cc pc = .ok (.aaload, 1)) (k : W p l e R s m args below meth c H locs cells slots Q (F0 m (pc + 1) ls (.ref (ad (4, i.toNat)) :: rest))) : W p l e R s m args below meth c H locs cells slots Q (F0 m (pc) ls (.int (zI i) :: .ref (ad (0, 7)) :: rest)) := by
  obtain ⟨q0, h0⟩ := zw_at (ad := ad) (y := y) (r := r) (show (0, 7) ∈ zid q u from zid_f (by decide +kernel))
  exact va_aldq M.1 M.2.1 M.2.2.2.2 hW.1 q0 4 h0 rfl (zI_in hz) hd (by rw [zI_cl hz]; exact k)
theorem zr_3 {own : String} {i : Int} (M : ZM p c cc s args m own D y) (hW : ZW D B y ad true u r H) (hz : zix i 13) (hd : decode cc pc = .ok (.baload, 1)) (k : W p l e R s m args below meth c H locs cells slots Q (F0 m (pc + 1) ls (.int (zI (rA r 3 i.toNat)) :: rest))) : W p l e R s m args below meth c H locs cells slots Q (F0 m (pc) ls (.int (zI i) :: .ref (ad (11, 3)) :: rest)) := by
  obtain ⟨q0, h0⟩ := zw_at (ad := ad) (y := y) (r := r) (show (11, 3) ∈ zid true u from zid_r (by decide +kernel))
  exact va_zald M.1 M.2.1 M.2.2.2.2 hW.1 q0 2 h0 rfl (zI_in hz) hd (by rw [zI_cl hz]; exact k)
theorem zo_tA3 {ad : Nat × Nat → Nat} {y : Nat → ClassId} {u : ZC} {r : ZR} {i : Nat} {v : Int} {j : Nat × Nat} (hj : j ≠ (11, 3)) : zcell ad y u (tA r 3 i v) j = zcell ad y u r j := by
  unfold zcell; split <;> first | rfl | (exact absurd rfl hj) | (split <;> first | rfl | simp_all)
theorem zw_3 {own : String} {i : Int} {v : Int} (M : ZM p c cc s args m own D y) (hW : ZW D B y ad true u r H) (hS : va_S (fun x => B ≤ x) H0 H locs) (hc : zbl v) (hz : zix i 13) (hd : decode cc pc = .ok (.bastore, 1)) (kk : ∀ (H1 : Heap) (locs1 : List Loc), ZW D B y ad true (u) (tA r 3 i.toNat v) H1 → va_S (fun x => B ≤ x) H0 H1 locs1 → W p l e R s m args below meth c H1 locs1 cells slots Q (F0 m (pc + 1) ls (rest))) : W p l e R s m args below meth c H locs cells slots Q (F0 m (pc) ls (.int (zI v) :: .int (zI i) :: .ref (ad (11, 3)) :: rest)) := by
  have hi : (11, 3) ∈ zid true u := zid_r (by decide +kernel)
  obtain ⟨q0, h0⟩ := zw_at (ad := ad) (y := y) (r := r) hi
  refine va_zast M.1 M.2.1 M.2.2.2.2 hW.1 hW.2 hS q0 2 h0 rfl (zI_in hz) hd (fun H1 locs1 hP hD hS => kk H1 locs1 ?_ hS)
  have E := zw_set (v := u) (w := tA r 3 i.toNat v) (e := .inl (y 2, 13, .inl (upd (fun j => zI (rA r 3 j)) i.toNat (zI v)))) hW.2 h0 hi rfl (by show (.inl (y 2, 13, .inl (fun j => zI (rA (tA r 3 i.toNat v) 3 j))) : va_E) = _; rw [rA_row]) (fun j _ hj => zo_tA3 hj)
  have hP : va_P D ZCL ((zws true ad y u r).set q0 (ad (11, 3), .inl (y 2, 13, .inl (upd (fun j => zI (rA r 3 j)) i.toNat (zI v))))) H1 := by
    have h9 := hP
    rw [zI_cl hz, znz hc] at h9
    exact h9
  have hD : va_D (fun x => B ≤ x) ((zws true ad y u r).set q0 (ad (11, 3), .inl (y 2, 13, .inl (upd (fun j => zI (rA r 3 j)) i.toNat (zI v))))) := by
    have h9 := hD
    rw [zI_cl hz, znz hc] at h9
    exact h9
  rw [E] at hP hD
  exact ⟨hP, hD⟩
theorem zr_4 {own : String} {i : Int} (M : ZM p c cc s args m own D y) (hW : ZW D B y ad true u r H) (hz : zix i 13) (hd : decode cc pc = .ok (.baload, 1)) (k : W p l e R s m args below meth c H locs cells slots Q (F0 m (pc + 1) ls (.int (zI (rA r 4 i.toNat)) :: rest))) : W p l e R s m args below meth c H locs cells slots Q (F0 m (pc) ls (.int (zI i) :: .ref (ad (11, 4)) :: rest)) := by
  obtain ⟨q0, h0⟩ := zw_at (ad := ad) (y := y) (r := r) (show (11, 4) ∈ zid true u from zid_r (by decide +kernel))
  exact va_zald M.1 M.2.1 M.2.2.2.2 hW.1 q0 2 h0 rfl (zI_in hz) hd (by rw [zI_cl hz]; exact k)
theorem zo_tA4 {ad : Nat × Nat → Nat} {y : Nat → ClassId} {u : ZC} {r : ZR} {i : Nat} {v : Int} {j : Nat × Nat} (hj : j ≠ (11, 4)) : zcell ad y u (tA r 4 i v) j = zcell ad y u r j := by
  unfold zcell; split <;> first | rfl | (exact absurd rfl hj) | (split <;> first | rfl | simp_all)
theorem zw_4 {own : String} {i : Int} {v : Int} (M : ZM p c cc s args m own D y) (hW : ZW D B y ad true u r H) (hS : va_S (fun x => B ≤ x) H0 H locs) (hc : zbl v) (hz : zix i 13) (hd : decode cc pc = .ok (.bastore, 1)) (kk : ∀ (H1 : Heap) (locs1 : List Loc), ZW D B y ad true (u) (tA r 4 i.toNat v) H1 → va_S (fun x => B ≤ x) H0 H1 locs1 → W p l e R s m args below meth c H1 locs1 cells slots Q (F0 m (pc + 1) ls (rest))) : W p l e R s m args below meth c H locs cells slots Q (F0 m (pc) ls (.int (zI v) :: .int (zI i) :: .ref (ad (11, 4)) :: rest)) := by
  have hi : (11, 4) ∈ zid true u := zid_r (by decide +kernel)
  obtain ⟨q0, h0⟩ := zw_at (ad := ad) (y := y) (r := r) hi
  refine va_zast M.1 M.2.1 M.2.2.2.2 hW.1 hW.2 hS q0 2 h0 rfl (zI_in hz) hd (fun H1 locs1 hP hD hS => kk H1 locs1 ?_ hS)
  have E := zw_set (v := u) (w := tA r 4 i.toNat v) (e := .inl (y 2, 13, .inl (upd (fun j => zI (rA r 4 j)) i.toNat (zI v)))) hW.2 h0 hi rfl (by show (.inl (y 2, 13, .inl (fun j => zI (rA (tA r 4 i.toNat v) 4 j))) : va_E) = _; rw [rA_row]) (fun j _ hj => zo_tA4 hj)
  have hP : va_P D ZCL ((zws true ad y u r).set q0 (ad (11, 4), .inl (y 2, 13, .inl (upd (fun j => zI (rA r 4 j)) i.toNat (zI v))))) H1 := by
    have h9 := hP
    rw [zI_cl hz, znz hc] at h9
    exact h9
  have hD : va_D (fun x => B ≤ x) ((zws true ad y u r).set q0 (ad (11, 4), .inl (y 2, 13, .inl (upd (fun j => zI (rA r 4 j)) i.toNat (zI v))))) := by
    have h9 := hD
    rw [zI_cl hz, znz hc] at h9
    exact h9
  rw [E] at hP hD
  exact ⟨hP, hD⟩
theorem zr_5 {own : String} {i : Int} (M : ZM p c cc s args m own D y) (hW : ZW D B y ad true u r H) (hz : zix i 13) (hd : decode cc pc = .ok (.iaload, 1)) (k : W p l e R s m args below meth c H locs cells slots Q (F0 m (pc + 1) ls (.int (zI (rA r 5 i.toNat)) :: rest))) : W p l e R s m args below meth c H locs cells slots Q (F0 m (pc) ls (.int (zI i) :: .ref (ad (11, 5)) :: rest)) := by
  obtain ⟨q0, h0⟩ := zw_at (ad := ad) (y := y) (r := r) (show (11, 5) ∈ zid true u from zid_r (by decide +kernel))
  exact va_iald M.1 M.2.1 M.2.2.2.2 hW.1 q0 0 h0 rfl (zI_in hz) hd (by rw [zI_cl hz]; exact k)
theorem zo_tA5 {ad : Nat × Nat → Nat} {y : Nat → ClassId} {u : ZC} {r : ZR} {i : Nat} {v : Int} {j : Nat × Nat} (hj : j ≠ (11, 5)) : zcell ad y u (tA r 5 i v) j = zcell ad y u r j := by
  unfold zcell; split <;> first | rfl | (exact absurd rfl hj) | (split <;> first | rfl | simp_all)
theorem zw_5 {own : String} {i : Int} {v : Int} (M : ZM p c cc s args m own D y) (hW : ZW D B y ad true u r H) (hS : va_S (fun x => B ≤ x) H0 H locs) (hz : zix i 13) (hd : decode cc pc = .ok (.iastore, 1)) (kk : ∀ (H1 : Heap) (locs1 : List Loc), ZW D B y ad true (u) (tA r 5 i.toNat v) H1 → va_S (fun x => B ≤ x) H0 H1 locs1 → W p l e R s m args below meth c H1 locs1 cells slots Q (F0 m (pc + 1) ls (rest))) : W p l e R s m args below meth c H locs cells slots Q (F0 m (pc) ls (.int (zI v) :: .int (zI i) :: .ref (ad (11, 5)) :: rest)) := by
  have hi : (11, 5) ∈ zid true u := zid_r (by decide +kernel)
  obtain ⟨q0, h0⟩ := zw_at (ad := ad) (y := y) (r := r) hi
  refine va_iast M.1 M.2.1 M.2.2.2.2 hW.1 hW.2 hS q0 0 h0 rfl (zI_in hz) hd (fun H1 locs1 hP hD hS => kk H1 locs1 ?_ hS)
  have E := zw_set (v := u) (w := tA r 5 i.toNat v) (e := .inl (y 0, 13, .inl (upd (fun j => zI (rA r 5 j)) i.toNat (zI v)))) hW.2 h0 hi rfl (by show (.inl (y 0, 13, .inl (fun j => zI (rA (tA r 5 i.toNat v) 5 j))) : va_E) = _; rw [rA_row]) (fun j _ hj => zo_tA5 hj)
  have hP : va_P D ZCL ((zws true ad y u r).set q0 (ad (11, 5), .inl (y 0, 13, .inl (upd (fun j => zI (rA r 5 j)) i.toNat (zI v))))) H1 := by
    have h9 := hP
    rw [zI_cl hz] at h9
    exact h9
  have hD : va_D (fun x => B ≤ x) ((zws true ad y u r).set q0 (ad (11, 5), .inl (y 0, 13, .inl (upd (fun j => zI (rA r 5 j)) i.toNat (zI v))))) := by
    have h9 := hD
    rw [zI_cl hz] at h9
    exact h9
  rw [E] at hP hD
  exact ⟨hP, hD⟩
theorem zr_6 {own : String} {i : Int} (M : ZM p c cc s args m own D y) (hW : ZW D B y ad true u r H) (hz : zix i 13) (hd : decode cc pc = .ok (.laload, 1)) (k : W p l e R s m args below meth c H locs cells slots Q (F0 m (pc + 1) ls (.long (rL r 6 i.toNat) :: rest))) : W p l e R s m args below meth c H locs cells slots Q (F0 m (pc) ls (.int (zI i) :: .ref (ad (11, 6)) :: rest)) := by
  obtain ⟨q0, h0⟩ := zw_at (ad := ad) (y := y) (r := r) (show (11, 6) ∈ zid true u from zid_r (by decide +kernel))
  exact va_lald M.1 M.2.1 M.2.2.2.2 hW.1 q0 3 h0 rfl (zI_in hz) hd (by rw [zI_cl hz]; exact k)
theorem zo_tL6 {ad : Nat × Nat → Nat} {y : Nat → ClassId} {u : ZC} {r : ZR} {i : Nat} {v : Int64} {j : Nat × Nat} (hj : j ≠ (11, 6)) : zcell ad y u (tL r 6 i v) j = zcell ad y u r j := by
  unfold zcell; split <;> first | rfl | (exact absurd rfl hj) | (split <;> first | rfl | simp_all)
theorem zw_6 {own : String} {i : Int} {v : Int64} (M : ZM p c cc s args m own D y) (hW : ZW D B y ad true u r H) (hS : va_S (fun x => B ≤ x) H0 H locs) (hz : zix i 13) (hd : decode cc pc = .ok (.lastore, 1)) (kk : ∀ (H1 : Heap) (locs1 : List Loc), ZW D B y ad true (u) (tL r 6 i.toNat v) H1 → va_S (fun x => B ≤ x) H0 H1 locs1 → W p l e R s m args below meth c H1 locs1 cells slots Q (F0 m (pc + 1) ls (rest))) : W p l e R s m args below meth c H locs cells slots Q (F0 m (pc) ls (.long v :: .int (zI i) :: .ref (ad (11, 6)) :: rest)) := by
  have hi : (11, 6) ∈ zid true u := zid_r (by decide +kernel)
  obtain ⟨q0, h0⟩ := zw_at (ad := ad) (y := y) (r := r) hi
  refine va_last M.1 M.2.1 M.2.2.2.2 hW.1 hW.2 hS q0 3 h0 rfl (zI_in hz) hd (fun H1 locs1 hP hD hS => kk H1 locs1 ?_ hS)
  have E := zw_set (v := u) (w := tL r 6 i.toNat v) (e := .inl (y 3, 13, .inr (.inl (vp_updL (fun j => rL r 6 j) i.toNat v)))) hW.2 h0 hi rfl (by show (.inl (y 3, 13, .inr (.inl (fun j => rL (tL r 6 i.toNat v) 6 j))) : va_E) = _; rw [rL_row]) (fun j _ hj => zo_tL6 hj)
  have hP : va_P D ZCL ((zws true ad y u r).set q0 (ad (11, 6), .inl (y 3, 13, .inr (.inl (vp_updL (fun j => rL r 6 j) i.toNat v))))) H1 := by
    have h9 := hP
    rw [zI_cl hz] at h9
    exact h9
  have hD : va_D (fun x => B ≤ x) ((zws true ad y u r).set q0 (ad (11, 6), .inl (y 3, 13, .inr (.inl (vp_updL (fun j => rL r 6 j) i.toNat v))))) := by
    have h9 := hD
    rw [zI_cl hz] at h9
    exact h9
  rw [E] at hP hD
  exact ⟨hP, hD⟩
theorem zr_7 {own : String} {i : Int} (M : ZM p c cc s args m own D y) (hW : ZW D B y ad true u r H) (hz : zix i 13) (hd : decode cc pc = .ok (.iaload, 1)) (k : W p l e R s m args below meth c H locs cells slots Q (F0 m (pc + 1) ls (.int (zI (rA r 7 i.toNat)) :: rest))) : W p l e R s m args below meth c H locs cells slots Q (F0 m (pc) ls (.int (zI i) :: .ref (ad (11, 7)) :: rest)) := by
  obtain ⟨q0, h0⟩ := zw_at (ad := ad) (y := y) (r := r) (show (11, 7) ∈ zid true u from zid_r (by decide +kernel))
  exact va_iald M.1 M.2.1 M.2.2.2.2 hW.1 q0 0 h0 rfl (zI_in hz) hd (by rw [zI_cl hz]; exact k)
theorem zo_tA7 {ad : Nat × Nat → Nat} {y : Nat → ClassId} {u : ZC} {r : ZR} {i : Nat} {v : Int} {j : Nat × Nat} (hj : j ≠ (11, 7)) : zcell ad y u (tA r 7 i v) j = zcell ad y u r j := by
  unfold zcell; split <;> first | rfl | (exact absurd rfl hj) | (split <;> first | rfl | simp_all)
theorem zw_7 {own : String} {i : Int} {v : Int} (M : ZM p c cc s args m own D y) (hW : ZW D B y ad true u r H) (hS : va_S (fun x => B ≤ x) H0 H locs) (hz : zix i 13) (hd : decode cc pc = .ok (.iastore, 1)) (kk : ∀ (H1 : Heap) (locs1 : List Loc), ZW D B y ad true (u) (tA r 7 i.toNat v) H1 → va_S (fun x => B ≤ x) H0 H1 locs1 → W p l e R s m args below meth c H1 locs1 cells slots Q (F0 m (pc + 1) ls (rest))) : W p l e R s m args below meth c H locs cells slots Q (F0 m (pc) ls (.int (zI v) :: .int (zI i) :: .ref (ad (11, 7)) :: rest)) := by
  have hi : (11, 7) ∈ zid true u := zid_r (by decide +kernel)
  obtain ⟨q0, h0⟩ := zw_at (ad := ad) (y := y) (r := r) hi
  refine va_iast M.1 M.2.1 M.2.2.2.2 hW.1 hW.2 hS q0 0 h0 rfl (zI_in hz) hd (fun H1 locs1 hP hD hS => kk H1 locs1 ?_ hS)
  have E := zw_set (v := u) (w := tA r 7 i.toNat v) (e := .inl (y 0, 13, .inl (upd (fun j => zI (rA r 7 j)) i.toNat (zI v)))) hW.2 h0 hi rfl (by show (.inl (y 0, 13, .inl (fun j => zI (rA (tA r 7 i.toNat v) 7 j))) : va_E) = _; rw [rA_row]) (fun j _ hj => zo_tA7 hj)
  have hP : va_P D ZCL ((zws true ad y u r).set q0 (ad (11, 7), .inl (y 0, 13, .inl (upd (fun j => zI (rA r 7 j)) i.toNat (zI v))))) H1 := by
    have h9 := hP
    rw [zI_cl hz] at h9
    exact h9
  have hD : va_D (fun x => B ≤ x) ((zws true ad y u r).set q0 (ad (11, 7), .inl (y 0, 13, .inl (upd (fun j => zI (rA r 7 j)) i.toNat (zI v))))) := by
    have h9 := hD
    rw [zI_cl hz] at h9
    exact h9
  rw [E] at hP hD
  exact ⟨hP, hD⟩
theorem zr_8 {own : String} {i : Int} (M : ZM p c cc s args m own D y) (hW : ZW D B y ad true u r H) (hz : zix i 2080) (hd : decode cc pc = .ok (.iaload, 1)) (k : W p l e R s m args below meth c H locs cells slots Q (F0 m (pc + 1) ls (.int (zI (rA r 8 i.toNat)) :: rest))) : W p l e R s m args below meth c H locs cells slots Q (F0 m (pc) ls (.int (zI i) :: .ref (ad (11, 8)) :: rest)) := by
  obtain ⟨q0, h0⟩ := zw_at (ad := ad) (y := y) (r := r) (show (11, 8) ∈ zid true u from zid_r (by decide +kernel))
  exact va_iald M.1 M.2.1 M.2.2.2.2 hW.1 q0 0 h0 rfl (zI_in hz) hd (by rw [zI_cl hz]; exact k)
theorem zo_tA8 {ad : Nat × Nat → Nat} {y : Nat → ClassId} {u : ZC} {r : ZR} {i : Nat} {v : Int} {j : Nat × Nat} (hj : j ≠ (11, 8)) : zcell ad y u (tA r 8 i v) j = zcell ad y u r j := by
  unfold zcell; split <;> first | rfl | (exact absurd rfl hj) | (split <;> first | rfl | simp_all)
theorem zw_8 {own : String} {i : Int} {v : Int} (M : ZM p c cc s args m own D y) (hW : ZW D B y ad true u r H) (hS : va_S (fun x => B ≤ x) H0 H locs) (hz : zix i 2080) (hd : decode cc pc = .ok (.iastore, 1)) (kk : ∀ (H1 : Heap) (locs1 : List Loc), ZW D B y ad true (u) (tA r 8 i.toNat v) H1 → va_S (fun x => B ≤ x) H0 H1 locs1 → W p l e R s m args below meth c H1 locs1 cells slots Q (F0 m (pc + 1) ls (rest))) : W p l e R s m args below meth c H locs cells slots Q (F0 m (pc) ls (.int (zI v) :: .int (zI i) :: .ref (ad (11, 8)) :: rest)) := by
  have hi : (11, 8) ∈ zid true u := zid_r (by decide +kernel)
  obtain ⟨q0, h0⟩ := zw_at (ad := ad) (y := y) (r := r) hi
  refine va_iast M.1 M.2.1 M.2.2.2.2 hW.1 hW.2 hS q0 0 h0 rfl (zI_in hz) hd (fun H1 locs1 hP hD hS => kk H1 locs1 ?_ hS)
  have E := zw_set (v := u) (w := tA r 8 i.toNat v) (e := .inl (y 0, 2080, .inl (upd (fun j => zI (rA r 8 j)) i.toNat (zI v)))) hW.2 h0 hi rfl (by show (.inl (y 0, 2080, .inl (fun j => zI (rA (tA r 8 i.toNat v) 8 j))) : va_E) = _; rw [rA_row]) (fun j _ hj => zo_tA8 hj)
  have hP : va_P D ZCL ((zws true ad y u r).set q0 (ad (11, 8), .inl (y 0, 2080, .inl (upd (fun j => zI (rA r 8 j)) i.toNat (zI v))))) H1 := by
    have h9 := hP
    rw [zI_cl hz] at h9
    exact h9
  have hD : va_D (fun x => B ≤ x) ((zws true ad y u r).set q0 (ad (11, 8), .inl (y 0, 2080, .inl (upd (fun j => zI (rA r 8 j)) i.toNat (zI v))))) := by
    have h9 := hD
    rw [zI_cl hz] at h9
    exact h9
  rw [E] at hP hD
  exact ⟨hP, hD⟩
theorem zr_11 {own : String} {i : Int} (M : ZM p c cc s args m own D y) (hW : ZW D B y ad true u r H) (hz : zix i 64) (hd : decode cc pc = .ok (.iaload, 1)) (k : W p l e R s m args below meth c H locs cells slots Q (F0 m (pc + 1) ls (.int (zI (rA r 11 i.toNat)) :: rest))) : W p l e R s m args below meth c H locs cells slots Q (F0 m (pc) ls (.int (zI i) :: .ref (ad (11, 11)) :: rest)) := by
  obtain ⟨q0, h0⟩ := zw_at (ad := ad) (y := y) (r := r) (show (11, 11) ∈ zid true u from zid_r (by decide +kernel))
  exact va_iald M.1 M.2.1 M.2.2.2.2 hW.1 q0 0 h0 rfl (zI_in hz) hd (by rw [zI_cl hz]; exact k)
theorem zo_tA11 {ad : Nat × Nat → Nat} {y : Nat → ClassId} {u : ZC} {r : ZR} {i : Nat} {v : Int} {j : Nat × Nat} (hj : j ≠ (11, 11)) : zcell ad y u (tA r 11 i v) j = zcell ad y u r j := by
  unfold zcell; split <;> first | rfl | (exact absurd rfl hj) | (split <;> first | rfl | simp_all)
theorem zw_11 {own : String} {i : Int} {v : Int} (M : ZM p c cc s args m own D y) (hW : ZW D B y ad true u r H) (hS : va_S (fun x => B ≤ x) H0 H locs) (hz : zix i 64) (hd : decode cc pc = .ok (.iastore, 1)) (kk : ∀ (H1 : Heap) (locs1 : List Loc), ZW D B y ad true (u) (tA r 11 i.toNat v) H1 → va_S (fun x => B ≤ x) H0 H1 locs1 → W p l e R s m args below meth c H1 locs1 cells slots Q (F0 m (pc + 1) ls (rest))) : W p l e R s m args below meth c H locs cells slots Q (F0 m (pc) ls (.int (zI v) :: .int (zI i) :: .ref (ad (11, 11)) :: rest)) := by
  have hi : (11, 11) ∈ zid true u := zid_r (by decide +kernel)
  obtain ⟨q0, h0⟩ := zw_at (ad := ad) (y := y) (r := r) hi
  refine va_iast M.1 M.2.1 M.2.2.2.2 hW.1 hW.2 hS q0 0 h0 rfl (zI_in hz) hd (fun H1 locs1 hP hD hS => kk H1 locs1 ?_ hS)
  have E := zw_set (v := u) (w := tA r 11 i.toNat v) (e := .inl (y 0, 64, .inl (upd (fun j => zI (rA r 11 j)) i.toNat (zI v)))) hW.2 h0 hi rfl (by show (.inl (y 0, 64, .inl (fun j => zI (rA (tA r 11 i.toNat v) 11 j))) : va_E) = _; rw [rA_row]) (fun j _ hj => zo_tA11 hj)
  have hP : va_P D ZCL ((zws true ad y u r).set q0 (ad (11, 11), .inl (y 0, 64, .inl (upd (fun j => zI (rA r 11 j)) i.toNat (zI v))))) H1 := by
    have h9 := hP
    rw [zI_cl hz] at h9
    exact h9
  have hD : va_D (fun x => B ≤ x) ((zws true ad y u r).set q0 (ad (11, 11), .inl (y 0, 64, .inl (upd (fun j => zI (rA r 11 j)) i.toNat (zI v))))) := by
    have h9 := hD
    rw [zI_cl hz] at h9
    exact h9
  rw [E] at hP hD
  exact ⟨hP, hD⟩
theorem zr_13 {own : String} {i : Int} (M : ZM p c cc s args m own D y) (hW : ZW D B y ad true u r H) (hz : zix i 64) (hd : decode cc pc = .ok (.iaload, 1)) (k : W p l e R s m args below meth c H locs cells slots Q (F0 m (pc + 1) ls (.int (zI (rA r 13 i.toNat)) :: rest))) : W p l e R s m args below meth c H locs cells slots Q (F0 m (pc) ls (.int (zI i) :: .ref (ad (11, 13)) :: rest)) := by
  obtain ⟨q0, h0⟩ := zw_at (ad := ad) (y := y) (r := r) (show (11, 13) ∈ zid true u from zid_r (by decide +kernel))
  exact va_iald M.1 M.2.1 M.2.2.2.2 hW.1 q0 0 h0 rfl (zI_in hz) hd (by rw [zI_cl hz]; exact k)
theorem zo_tA13 {ad : Nat × Nat → Nat} {y : Nat → ClassId} {u : ZC} {r : ZR} {i : Nat} {v : Int} {j : Nat × Nat} (hj : j ≠ (11, 13)) : zcell ad y u (tA r 13 i v) j = zcell ad y u r j := by
  unfold zcell; split <;> first | rfl | (exact absurd rfl hj) | (split <;> first | rfl | simp_all)
theorem zw_13 {own : String} {i : Int} {v : Int} (M : ZM p c cc s args m own D y) (hW : ZW D B y ad true u r H) (hS : va_S (fun x => B ≤ x) H0 H locs) (hz : zix i 64) (hd : decode cc pc = .ok (.iastore, 1)) (kk : ∀ (H1 : Heap) (locs1 : List Loc), ZW D B y ad true (u) (tA r 13 i.toNat v) H1 → va_S (fun x => B ≤ x) H0 H1 locs1 → W p l e R s m args below meth c H1 locs1 cells slots Q (F0 m (pc + 1) ls (rest))) : W p l e R s m args below meth c H locs cells slots Q (F0 m (pc) ls (.int (zI v) :: .int (zI i) :: .ref (ad (11, 13)) :: rest)) := by
  have hi : (11, 13) ∈ zid true u := zid_r (by decide +kernel)
  obtain ⟨q0, h0⟩ := zw_at (ad := ad) (y := y) (r := r) hi
  refine va_iast M.1 M.2.1 M.2.2.2.2 hW.1 hW.2 hS q0 0 h0 rfl (zI_in hz) hd (fun H1 locs1 hP hD hS => kk H1 locs1 ?_ hS)
  have E := zw_set (v := u) (w := tA r 13 i.toNat v) (e := .inl (y 0, 64, .inl (upd (fun j => zI (rA r 13 j)) i.toNat (zI v)))) hW.2 h0 hi rfl (by show (.inl (y 0, 64, .inl (fun j => zI (rA (tA r 13 i.toNat v) 13 j))) : va_E) = _; rw [rA_row]) (fun j _ hj => zo_tA13 hj)
  have hP : va_P D ZCL ((zws true ad y u r).set q0 (ad (11, 13), .inl (y 0, 64, .inl (upd (fun j => zI (rA r 13 j)) i.toNat (zI v))))) H1 := by
    have h9 := hP
    rw [zI_cl hz] at h9
    exact h9
  have hD : va_D (fun x => B ≤ x) ((zws true ad y u r).set q0 (ad (11, 13), .inl (y 0, 64, .inl (upd (fun j => zI (rA r 13 j)) i.toNat (zI v))))) := by
    have h9 := hD
    rw [zI_cl hz] at h9
    exact h9
  rw [E] at hP hD
  exact ⟨hP, hD⟩
theorem zr_14 {own : String} {i : Int} (M : ZM p c cc s args m own D y) (hW : ZW D B y ad true u r H) (hz : zix i 64) (hd : decode cc pc = .ok (.iaload, 1)) (k : W p l e R s m args below meth c H locs cells slots Q (F0 m (pc + 1) ls (.int (zI (rA r 14 i.toNat)) :: rest))) : W p l e R s m args below meth c H locs cells slots Q (F0 m (pc) ls (.int (zI i) :: .ref (ad (11, 14)) :: rest)) := by
  obtain ⟨q0, h0⟩ := zw_at (ad := ad) (y := y) (r := r) (show (11, 14) ∈ zid true u from zid_r (by decide +kernel))
  exact va_iald M.1 M.2.1 M.2.2.2.2 hW.1 q0 0 h0 rfl (zI_in hz) hd (by rw [zI_cl hz]; exact k)
theorem zo_tA14 {ad : Nat × Nat → Nat} {y : Nat → ClassId} {u : ZC} {r : ZR} {i : Nat} {v : Int} {j : Nat × Nat} (hj : j ≠ (11, 14)) : zcell ad y u (tA r 14 i v) j = zcell ad y u r j := by
  unfold zcell; split <;> first | rfl | (exact absurd rfl hj) | (split <;> first | rfl | simp_all)
theorem zw_14 {own : String} {i : Int} {v : Int} (M : ZM p c cc s args m own D y) (hW : ZW D B y ad true u r H) (hS : va_S (fun x => B ≤ x) H0 H locs) (hz : zix i 64) (hd : decode cc pc = .ok (.iastore, 1)) (kk : ∀ (H1 : Heap) (locs1 : List Loc), ZW D B y ad true (u) (tA r 14 i.toNat v) H1 → va_S (fun x => B ≤ x) H0 H1 locs1 → W p l e R s m args below meth c H1 locs1 cells slots Q (F0 m (pc + 1) ls (rest))) : W p l e R s m args below meth c H locs cells slots Q (F0 m (pc) ls (.int (zI v) :: .int (zI i) :: .ref (ad (11, 14)) :: rest)) := by
  have hi : (11, 14) ∈ zid true u := zid_r (by decide +kernel)
  obtain ⟨q0, h0⟩ := zw_at (ad := ad) (y := y) (r := r) hi
  refine va_iast M.1 M.2.1 M.2.2.2.2 hW.1 hW.2 hS q0 0 h0 rfl (zI_in hz) hd (fun H1 locs1 hP hD hS => kk H1 locs1 ?_ hS)
  have E := zw_set (v := u) (w := tA r 14 i.toNat v) (e := .inl (y 0, 64, .inl (upd (fun j => zI (rA r 14 j)) i.toNat (zI v)))) hW.2 h0 hi rfl (by show (.inl (y 0, 64, .inl (fun j => zI (rA (tA r 14 i.toNat v) 14 j))) : va_E) = _; rw [rA_row]) (fun j _ hj => zo_tA14 hj)
  have hP : va_P D ZCL ((zws true ad y u r).set q0 (ad (11, 14), .inl (y 0, 64, .inl (upd (fun j => zI (rA r 14 j)) i.toNat (zI v))))) H1 := by
    have h9 := hP
    rw [zI_cl hz] at h9
    exact h9
  have hD : va_D (fun x => B ≤ x) ((zws true ad y u r).set q0 (ad (11, 14), .inl (y 0, 64, .inl (upd (fun j => zI (rA r 14 j)) i.toNat (zI v))))) := by
    have h9 := hD
    rw [zI_cl hz] at h9
    exact h9
  rw [E] at hP hD
  exact ⟨hP, hD⟩
theorem zr_15 {own : String} {i : Int} (M : ZM p c cc s args m own D y) (hW : ZW D B y ad true u r H) (hz : zix i 64) (hd : decode cc pc = .ok (.iaload, 1)) (k : W p l e R s m args below meth c H locs cells slots Q (F0 m (pc + 1) ls (.int (zI (rA r 15 i.toNat)) :: rest))) : W p l e R s m args below meth c H locs cells slots Q (F0 m (pc) ls (.int (zI i) :: .ref (ad (11, 15)) :: rest)) := by
  obtain ⟨q0, h0⟩ := zw_at (ad := ad) (y := y) (r := r) (show (11, 15) ∈ zid true u from zid_r (by decide +kernel))
  exact va_iald M.1 M.2.1 M.2.2.2.2 hW.1 q0 0 h0 rfl (zI_in hz) hd (by rw [zI_cl hz]; exact k)
theorem zo_tA15 {ad : Nat × Nat → Nat} {y : Nat → ClassId} {u : ZC} {r : ZR} {i : Nat} {v : Int} {j : Nat × Nat} (hj : j ≠ (11, 15)) : zcell ad y u (tA r 15 i v) j = zcell ad y u r j := by
  unfold zcell; split <;> first | rfl | (exact absurd rfl hj) | (split <;> first | rfl | simp_all)
theorem zw_15 {own : String} {i : Int} {v : Int} (M : ZM p c cc s args m own D y) (hW : ZW D B y ad true u r H) (hS : va_S (fun x => B ≤ x) H0 H locs) (hz : zix i 64) (hd : decode cc pc = .ok (.iastore, 1)) (kk : ∀ (H1 : Heap) (locs1 : List Loc), ZW D B y ad true (u) (tA r 15 i.toNat v) H1 → va_S (fun x => B ≤ x) H0 H1 locs1 → W p l e R s m args below meth c H1 locs1 cells slots Q (F0 m (pc + 1) ls (rest))) : W p l e R s m args below meth c H locs cells slots Q (F0 m (pc) ls (.int (zI v) :: .int (zI i) :: .ref (ad (11, 15)) :: rest)) := by
  have hi : (11, 15) ∈ zid true u := zid_r (by decide +kernel)
  obtain ⟨q0, h0⟩ := zw_at (ad := ad) (y := y) (r := r) hi
  refine va_iast M.1 M.2.1 M.2.2.2.2 hW.1 hW.2 hS q0 0 h0 rfl (zI_in hz) hd (fun H1 locs1 hP hD hS => kk H1 locs1 ?_ hS)
  have E := zw_set (v := u) (w := tA r 15 i.toNat v) (e := .inl (y 0, 64, .inl (upd (fun j => zI (rA r 15 j)) i.toNat (zI v)))) hW.2 h0 hi rfl (by show (.inl (y 0, 64, .inl (fun j => zI (rA (tA r 15 i.toNat v) 15 j))) : va_E) = _; rw [rA_row]) (fun j _ hj => zo_tA15 hj)
  have hP : va_P D ZCL ((zws true ad y u r).set q0 (ad (11, 15), .inl (y 0, 64, .inl (upd (fun j => zI (rA r 15 j)) i.toNat (zI v))))) H1 := by
    have h9 := hP
    rw [zI_cl hz] at h9
    exact h9
  have hD : va_D (fun x => B ≤ x) ((zws true ad y u r).set q0 (ad (11, 15), .inl (y 0, 64, .inl (upd (fun j => zI (rA r 15 j)) i.toNat (zI v))))) := by
    have h9 := hD
    rw [zI_cl hz] at h9
    exact h9
  rw [E] at hP hD
  exact ⟨hP, hD⟩
theorem zr_17 {own : String} {i : Int} (M : ZM p c cc s args m own D y) (hW : ZW D B y ad true u r H) (hz : zix i 65) (hd : decode cc pc = .ok (.iaload, 1)) (k : W p l e R s m args below meth c H locs cells slots Q (F0 m (pc + 1) ls (.int (zI (rA r 17 i.toNat)) :: rest))) : W p l e R s m args below meth c H locs cells slots Q (F0 m (pc) ls (.int (zI i) :: .ref (ad (11, 17)) :: rest)) := by
  obtain ⟨q0, h0⟩ := zw_at (ad := ad) (y := y) (r := r) (show (11, 17) ∈ zid true u from zid_r (by decide +kernel))
  exact va_iald M.1 M.2.1 M.2.2.2.2 hW.1 q0 0 h0 rfl (zI_in hz) hd (by rw [zI_cl hz]; exact k)
theorem zo_tA17 {ad : Nat × Nat → Nat} {y : Nat → ClassId} {u : ZC} {r : ZR} {i : Nat} {v : Int} {j : Nat × Nat} (hj : j ≠ (11, 17)) : zcell ad y u (tA r 17 i v) j = zcell ad y u r j := by
  unfold zcell; split <;> first | rfl | (exact absurd rfl hj) | (split <;> first | rfl | simp_all)
theorem zw_17 {own : String} {i : Int} {v : Int} (M : ZM p c cc s args m own D y) (hW : ZW D B y ad true u r H) (hS : va_S (fun x => B ≤ x) H0 H locs) (hz : zix i 65) (hd : decode cc pc = .ok (.iastore, 1)) (kk : ∀ (H1 : Heap) (locs1 : List Loc), ZW D B y ad true (u) (tA r 17 i.toNat v) H1 → va_S (fun x => B ≤ x) H0 H1 locs1 → W p l e R s m args below meth c H1 locs1 cells slots Q (F0 m (pc + 1) ls (rest))) : W p l e R s m args below meth c H locs cells slots Q (F0 m (pc) ls (.int (zI v) :: .int (zI i) :: .ref (ad (11, 17)) :: rest)) := by
  have hi : (11, 17) ∈ zid true u := zid_r (by decide +kernel)
  obtain ⟨q0, h0⟩ := zw_at (ad := ad) (y := y) (r := r) hi
  refine va_iast M.1 M.2.1 M.2.2.2.2 hW.1 hW.2 hS q0 0 h0 rfl (zI_in hz) hd (fun H1 locs1 hP hD hS => kk H1 locs1 ?_ hS)
  have E := zw_set (v := u) (w := tA r 17 i.toNat v) (e := .inl (y 0, 65, .inl (upd (fun j => zI (rA r 17 j)) i.toNat (zI v)))) hW.2 h0 hi rfl (by show (.inl (y 0, 65, .inl (fun j => zI (rA (tA r 17 i.toNat v) 17 j))) : va_E) = _; rw [rA_row]) (fun j _ hj => zo_tA17 hj)
  have hP : va_P D ZCL ((zws true ad y u r).set q0 (ad (11, 17), .inl (y 0, 65, .inl (upd (fun j => zI (rA r 17 j)) i.toNat (zI v))))) H1 := by
    have h9 := hP
    rw [zI_cl hz] at h9
    exact h9
  have hD : va_D (fun x => B ≤ x) ((zws true ad y u r).set q0 (ad (11, 17), .inl (y 0, 65, .inl (upd (fun j => zI (rA r 17 j)) i.toNat (zI v))))) := by
    have h9 := hD
    rw [zI_cl hz] at h9
    exact h9
  rw [E] at hP hD
  exact ⟨hP, hD⟩
theorem zr_18 {own : String} {i : Int} (M : ZM p c cc s args m own D y) (hW : ZW D B y ad true u r H) (hz : zix i 65) (hd : decode cc pc = .ok (.iaload, 1)) (k : W p l e R s m args below meth c H locs cells slots Q (F0 m (pc + 1) ls (.int (zI (rA r 18 i.toNat)) :: rest))) : W p l e R s m args below meth c H locs cells slots Q (F0 m (pc) ls (.int (zI i) :: .ref (ad (11, 18)) :: rest)) := by
  obtain ⟨q0, h0⟩ := zw_at (ad := ad) (y := y) (r := r) (show (11, 18) ∈ zid true u from zid_r (by decide +kernel))
  exact va_iald M.1 M.2.1 M.2.2.2.2 hW.1 q0 0 h0 rfl (zI_in hz) hd (by rw [zI_cl hz]; exact k)
theorem zo_tA18 {ad : Nat × Nat → Nat} {y : Nat → ClassId} {u : ZC} {r : ZR} {i : Nat} {v : Int} {j : Nat × Nat} (hj : j ≠ (11, 18)) : zcell ad y u (tA r 18 i v) j = zcell ad y u r j := by
  unfold zcell; split <;> first | rfl | (exact absurd rfl hj) | (split <;> first | rfl | simp_all)
theorem zw_18 {own : String} {i : Int} {v : Int} (M : ZM p c cc s args m own D y) (hW : ZW D B y ad true u r H) (hS : va_S (fun x => B ≤ x) H0 H locs) (hz : zix i 65) (hd : decode cc pc = .ok (.iastore, 1)) (kk : ∀ (H1 : Heap) (locs1 : List Loc), ZW D B y ad true (u) (tA r 18 i.toNat v) H1 → va_S (fun x => B ≤ x) H0 H1 locs1 → W p l e R s m args below meth c H1 locs1 cells slots Q (F0 m (pc + 1) ls (rest))) : W p l e R s m args below meth c H locs cells slots Q (F0 m (pc) ls (.int (zI v) :: .int (zI i) :: .ref (ad (11, 18)) :: rest)) := by
  have hi : (11, 18) ∈ zid true u := zid_r (by decide +kernel)
  obtain ⟨q0, h0⟩ := zw_at (ad := ad) (y := y) (r := r) hi
  refine va_iast M.1 M.2.1 M.2.2.2.2 hW.1 hW.2 hS q0 0 h0 rfl (zI_in hz) hd (fun H1 locs1 hP hD hS => kk H1 locs1 ?_ hS)
  have E := zw_set (v := u) (w := tA r 18 i.toNat v) (e := .inl (y 0, 65, .inl (upd (fun j => zI (rA r 18 j)) i.toNat (zI v)))) hW.2 h0 hi rfl (by show (.inl (y 0, 65, .inl (fun j => zI (rA (tA r 18 i.toNat v) 18 j))) : va_E) = _; rw [rA_row]) (fun j _ hj => zo_tA18 hj)
  have hP : va_P D ZCL ((zws true ad y u r).set q0 (ad (11, 18), .inl (y 0, 65, .inl (upd (fun j => zI (rA r 18 j)) i.toNat (zI v))))) H1 := by
    have h9 := hP
    rw [zI_cl hz] at h9
    exact h9
  have hD : va_D (fun x => B ≤ x) ((zws true ad y u r).set q0 (ad (11, 18), .inl (y 0, 65, .inl (upd (fun j => zI (rA r 18 j)) i.toNat (zI v))))) := by
    have h9 := hD
    rw [zI_cl hz] at h9
    exact h9
  rw [E] at hP hD
  exact ⟨hP, hD⟩
theorem zr_20 {own : String} {i : Int} (M : ZM p c cc s args m own D y) (hW : ZW D B y ad true u r H) (hz : zix i 200) (hd : decode cc pc = .ok (.iaload, 1)) (k : W p l e R s m args below meth c H locs cells slots Q (F0 m (pc + 1) ls (.int (zI (rA r 20 i.toNat)) :: rest))) : W p l e R s m args below meth c H locs cells slots Q (F0 m (pc) ls (.int (zI i) :: .ref (ad (11, 20)) :: rest)) := by
  obtain ⟨q0, h0⟩ := zw_at (ad := ad) (y := y) (r := r) (show (11, 20) ∈ zid true u from zid_r (by decide +kernel))
  exact va_iald M.1 M.2.1 M.2.2.2.2 hW.1 q0 0 h0 rfl (zI_in hz) hd (by rw [zI_cl hz]; exact k)
theorem zo_tA20 {ad : Nat × Nat → Nat} {y : Nat → ClassId} {u : ZC} {r : ZR} {i : Nat} {v : Int} {j : Nat × Nat} (hj : j ≠ (11, 20)) : zcell ad y u (tA r 20 i v) j = zcell ad y u r j := by
  unfold zcell; split <;> first | rfl | (exact absurd rfl hj) | (split <;> first | rfl | simp_all)
theorem zw_20 {own : String} {i : Int} {v : Int} (M : ZM p c cc s args m own D y) (hW : ZW D B y ad true u r H) (hS : va_S (fun x => B ≤ x) H0 H locs) (hz : zix i 200) (hd : decode cc pc = .ok (.iastore, 1)) (kk : ∀ (H1 : Heap) (locs1 : List Loc), ZW D B y ad true (u) (tA r 20 i.toNat v) H1 → va_S (fun x => B ≤ x) H0 H1 locs1 → W p l e R s m args below meth c H1 locs1 cells slots Q (F0 m (pc + 1) ls (rest))) : W p l e R s m args below meth c H locs cells slots Q (F0 m (pc) ls (.int (zI v) :: .int (zI i) :: .ref (ad (11, 20)) :: rest)) := by
  have hi : (11, 20) ∈ zid true u := zid_r (by decide +kernel)
  obtain ⟨q0, h0⟩ := zw_at (ad := ad) (y := y) (r := r) hi
  refine va_iast M.1 M.2.1 M.2.2.2.2 hW.1 hW.2 hS q0 0 h0 rfl (zI_in hz) hd (fun H1 locs1 hP hD hS => kk H1 locs1 ?_ hS)
  have E := zw_set (v := u) (w := tA r 20 i.toNat v) (e := .inl (y 0, 200, .inl (upd (fun j => zI (rA r 20 j)) i.toNat (zI v)))) hW.2 h0 hi rfl (by show (.inl (y 0, 200, .inl (fun j => zI (rA (tA r 20 i.toNat v) 20 j))) : va_E) = _; rw [rA_row]) (fun j _ hj => zo_tA20 hj)
  have hP : va_P D ZCL ((zws true ad y u r).set q0 (ad (11, 20), .inl (y 0, 200, .inl (upd (fun j => zI (rA r 20 j)) i.toNat (zI v))))) H1 := by
    have h9 := hP
    rw [zI_cl hz] at h9
    exact h9
  have hD : va_D (fun x => B ≤ x) ((zws true ad y u r).set q0 (ad (11, 20), .inl (y 0, 200, .inl (upd (fun j => zI (rA r 20 j)) i.toNat (zI v))))) := by
    have h9 := hD
    rw [zI_cl hz] at h9
    exact h9
  rw [E] at hP hD
  exact ⟨hP, hD⟩
theorem zr_23 {own : String} {i : Int} (M : ZM p c cc s args m own D y) (hW : ZW D B y ad true u r H) (hz : zix i 5) (hd : decode cc pc = .ok (.iaload, 1)) (k : W p l e R s m args below meth c H locs cells slots Q (F0 m (pc + 1) ls (.int (zI (rA r 23 i.toNat)) :: rest))) : W p l e R s m args below meth c H locs cells slots Q (F0 m (pc) ls (.int (zI i) :: .ref (ad (11, 23)) :: rest)) := by
  obtain ⟨q0, h0⟩ := zw_at (ad := ad) (y := y) (r := r) (show (11, 23) ∈ zid true u from zid_r (by decide +kernel))
  exact va_iald M.1 M.2.1 M.2.2.2.2 hW.1 q0 0 h0 rfl (zI_in hz) hd (by rw [zI_cl hz]; exact k)
theorem zo_tA23 {ad : Nat × Nat → Nat} {y : Nat → ClassId} {u : ZC} {r : ZR} {i : Nat} {v : Int} {j : Nat × Nat} (hj : j ≠ (11, 23)) : zcell ad y u (tA r 23 i v) j = zcell ad y u r j := by
  unfold zcell; split <;> first | rfl | (exact absurd rfl hj) | (split <;> first | rfl | simp_all)
theorem zw_23 {own : String} {i : Int} {v : Int} (M : ZM p c cc s args m own D y) (hW : ZW D B y ad true u r H) (hS : va_S (fun x => B ≤ x) H0 H locs) (hz : zix i 5) (hd : decode cc pc = .ok (.iastore, 1)) (kk : ∀ (H1 : Heap) (locs1 : List Loc), ZW D B y ad true (u) (tA r 23 i.toNat v) H1 → va_S (fun x => B ≤ x) H0 H1 locs1 → W p l e R s m args below meth c H1 locs1 cells slots Q (F0 m (pc + 1) ls (rest))) : W p l e R s m args below meth c H locs cells slots Q (F0 m (pc) ls (.int (zI v) :: .int (zI i) :: .ref (ad (11, 23)) :: rest)) := by
  have hi : (11, 23) ∈ zid true u := zid_r (by decide +kernel)
  obtain ⟨q0, h0⟩ := zw_at (ad := ad) (y := y) (r := r) hi
  refine va_iast M.1 M.2.1 M.2.2.2.2 hW.1 hW.2 hS q0 0 h0 rfl (zI_in hz) hd (fun H1 locs1 hP hD hS => kk H1 locs1 ?_ hS)
  have E := zw_set (v := u) (w := tA r 23 i.toNat v) (e := .inl (y 0, 5, .inl (upd (fun j => zI (rA r 23 j)) i.toNat (zI v)))) hW.2 h0 hi rfl (by show (.inl (y 0, 5, .inl (fun j => zI (rA (tA r 23 i.toNat v) 23 j))) : va_E) = _; rw [rA_row]) (fun j _ hj => zo_tA23 hj)
  have hP : va_P D ZCL ((zws true ad y u r).set q0 (ad (11, 23), .inl (y 0, 5, .inl (upd (fun j => zI (rA r 23 j)) i.toNat (zI v))))) H1 := by
    have h9 := hP
    rw [zI_cl hz] at h9
    exact h9
  have hD : va_D (fun x => B ≤ x) ((zws true ad y u r).set q0 (ad (11, 23), .inl (y 0, 5, .inl (upd (fun j => zI (rA r 23 j)) i.toNat (zI v))))) := by
    have h9 := hD
    rw [zI_cl hz] at h9
    exact h9
  rw [E] at hP hD
  exact ⟨hP, hD⟩
theorem zr_24 {own : String} {i : Int} (M : ZM p c cc s args m own D y) (hW : ZW D B y ad true u r H) (hz : zix i 5) (hd : decode cc pc = .ok (.iaload, 1)) (k : W p l e R s m args below meth c H locs cells slots Q (F0 m (pc + 1) ls (.int (zI (rA r 24 i.toNat)) :: rest))) : W p l e R s m args below meth c H locs cells slots Q (F0 m (pc) ls (.int (zI i) :: .ref (ad (11, 24)) :: rest)) := by
  obtain ⟨q0, h0⟩ := zw_at (ad := ad) (y := y) (r := r) (show (11, 24) ∈ zid true u from zid_r (by decide +kernel))
  exact va_iald M.1 M.2.1 M.2.2.2.2 hW.1 q0 0 h0 rfl (zI_in hz) hd (by rw [zI_cl hz]; exact k)
theorem zo_tA24 {ad : Nat × Nat → Nat} {y : Nat → ClassId} {u : ZC} {r : ZR} {i : Nat} {v : Int} {j : Nat × Nat} (hj : j ≠ (11, 24)) : zcell ad y u (tA r 24 i v) j = zcell ad y u r j := by
  unfold zcell; split <;> first | rfl | (exact absurd rfl hj) | (split <;> first | rfl | simp_all)
theorem zw_24 {own : String} {i : Int} {v : Int} (M : ZM p c cc s args m own D y) (hW : ZW D B y ad true u r H) (hS : va_S (fun x => B ≤ x) H0 H locs) (hz : zix i 5) (hd : decode cc pc = .ok (.iastore, 1)) (kk : ∀ (H1 : Heap) (locs1 : List Loc), ZW D B y ad true (u) (tA r 24 i.toNat v) H1 → va_S (fun x => B ≤ x) H0 H1 locs1 → W p l e R s m args below meth c H1 locs1 cells slots Q (F0 m (pc + 1) ls (rest))) : W p l e R s m args below meth c H locs cells slots Q (F0 m (pc) ls (.int (zI v) :: .int (zI i) :: .ref (ad (11, 24)) :: rest)) := by
  have hi : (11, 24) ∈ zid true u := zid_r (by decide +kernel)
  obtain ⟨q0, h0⟩ := zw_at (ad := ad) (y := y) (r := r) hi
  refine va_iast M.1 M.2.1 M.2.2.2.2 hW.1 hW.2 hS q0 0 h0 rfl (zI_in hz) hd (fun H1 locs1 hP hD hS => kk H1 locs1 ?_ hS)
  have E := zw_set (v := u) (w := tA r 24 i.toNat v) (e := .inl (y 0, 5, .inl (upd (fun j => zI (rA r 24 j)) i.toNat (zI v)))) hW.2 h0 hi rfl (by show (.inl (y 0, 5, .inl (fun j => zI (rA (tA r 24 i.toNat v) 24 j))) : va_E) = _; rw [rA_row]) (fun j _ hj => zo_tA24 hj)
  have hP : va_P D ZCL ((zws true ad y u r).set q0 (ad (11, 24), .inl (y 0, 5, .inl (upd (fun j => zI (rA r 24 j)) i.toNat (zI v))))) H1 := by
    have h9 := hP
    rw [zI_cl hz] at h9
    exact h9
  have hD : va_D (fun x => B ≤ x) ((zws true ad y u r).set q0 (ad (11, 24), .inl (y 0, 5, .inl (upd (fun j => zI (rA r 24 j)) i.toNat (zI v))))) := by
    have h9 := hD
    rw [zI_cl hz] at h9
    exact h9
  rw [E] at hP hD
  exact ⟨hP, hD⟩
theorem zr_25 {own : String} {i : Int} (M : ZM p c cc s args m own D y) (hW : ZW D B y ad true u r H) (hz : zix i 5) (hd : decode cc pc = .ok (.iaload, 1)) (k : W p l e R s m args below meth c H locs cells slots Q (F0 m (pc + 1) ls (.int (zI (rA r 25 i.toNat)) :: rest))) : W p l e R s m args below meth c H locs cells slots Q (F0 m (pc) ls (.int (zI i) :: .ref (ad (11, 25)) :: rest)) := by
  obtain ⟨q0, h0⟩ := zw_at (ad := ad) (y := y) (r := r) (show (11, 25) ∈ zid true u from zid_r (by decide +kernel))
  exact va_iald M.1 M.2.1 M.2.2.2.2 hW.1 q0 0 h0 rfl (zI_in hz) hd (by rw [zI_cl hz]; exact k)
theorem zo_tA25 {ad : Nat × Nat → Nat} {y : Nat → ClassId} {u : ZC} {r : ZR} {i : Nat} {v : Int} {j : Nat × Nat} (hj : j ≠ (11, 25)) : zcell ad y u (tA r 25 i v) j = zcell ad y u r j := by
  unfold zcell; split <;> first | rfl | (exact absurd rfl hj) | (split <;> first | rfl | simp_all)
theorem zw_25 {own : String} {i : Int} {v : Int} (M : ZM p c cc s args m own D y) (hW : ZW D B y ad true u r H) (hS : va_S (fun x => B ≤ x) H0 H locs) (hz : zix i 5) (hd : decode cc pc = .ok (.iastore, 1)) (kk : ∀ (H1 : Heap) (locs1 : List Loc), ZW D B y ad true (u) (tA r 25 i.toNat v) H1 → va_S (fun x => B ≤ x) H0 H1 locs1 → W p l e R s m args below meth c H1 locs1 cells slots Q (F0 m (pc + 1) ls (rest))) : W p l e R s m args below meth c H locs cells slots Q (F0 m (pc) ls (.int (zI v) :: .int (zI i) :: .ref (ad (11, 25)) :: rest)) := by
  have hi : (11, 25) ∈ zid true u := zid_r (by decide +kernel)
  obtain ⟨q0, h0⟩ := zw_at (ad := ad) (y := y) (r := r) hi
  refine va_iast M.1 M.2.1 M.2.2.2.2 hW.1 hW.2 hS q0 0 h0 rfl (zI_in hz) hd (fun H1 locs1 hP hD hS => kk H1 locs1 ?_ hS)
  have E := zw_set (v := u) (w := tA r 25 i.toNat v) (e := .inl (y 0, 5, .inl (upd (fun j => zI (rA r 25 j)) i.toNat (zI v)))) hW.2 h0 hi rfl (by show (.inl (y 0, 5, .inl (fun j => zI (rA (tA r 25 i.toNat v) 25 j))) : va_E) = _; rw [rA_row]) (fun j _ hj => zo_tA25 hj)
  have hP : va_P D ZCL ((zws true ad y u r).set q0 (ad (11, 25), .inl (y 0, 5, .inl (upd (fun j => zI (rA r 25 j)) i.toNat (zI v))))) H1 := by
    have h9 := hP
    rw [zI_cl hz] at h9
    exact h9
  have hD : va_D (fun x => B ≤ x) ((zws true ad y u r).set q0 (ad (11, 25), .inl (y 0, 5, .inl (upd (fun j => zI (rA r 25 j)) i.toNat (zI v))))) := by
    have h9 := hD
    rw [zI_cl hz] at h9
    exact h9
  rw [E] at hP hD
  exact ⟨hP, hD⟩
theorem zr_26 {own : String} {i : Int} (M : ZM p c cc s args m own D y) (hW : ZW D B y ad true u r H) (hz : zix i 5) (hd : decode cc pc = .ok (.iaload, 1)) (k : W p l e R s m args below meth c H locs cells slots Q (F0 m (pc + 1) ls (.int (zI (rA r 26 i.toNat)) :: rest))) : W p l e R s m args below meth c H locs cells slots Q (F0 m (pc) ls (.int (zI i) :: .ref (ad (11, 26)) :: rest)) := by
  obtain ⟨q0, h0⟩ := zw_at (ad := ad) (y := y) (r := r) (show (11, 26) ∈ zid true u from zid_r (by decide +kernel))
  exact va_iald M.1 M.2.1 M.2.2.2.2 hW.1 q0 0 h0 rfl (zI_in hz) hd (by rw [zI_cl hz]; exact k)
theorem zo_tA26 {ad : Nat × Nat → Nat} {y : Nat → ClassId} {u : ZC} {r : ZR} {i : Nat} {v : Int} {j : Nat × Nat} (hj : j ≠ (11, 26)) : zcell ad y u (tA r 26 i v) j = zcell ad y u r j := by
  unfold zcell; split <;> first | rfl | (exact absurd rfl hj) | (split <;> first | rfl | simp_all)
theorem zw_26 {own : String} {i : Int} {v : Int} (M : ZM p c cc s args m own D y) (hW : ZW D B y ad true u r H) (hS : va_S (fun x => B ≤ x) H0 H locs) (hz : zix i 5) (hd : decode cc pc = .ok (.iastore, 1)) (kk : ∀ (H1 : Heap) (locs1 : List Loc), ZW D B y ad true (u) (tA r 26 i.toNat v) H1 → va_S (fun x => B ≤ x) H0 H1 locs1 → W p l e R s m args below meth c H1 locs1 cells slots Q (F0 m (pc + 1) ls (rest))) : W p l e R s m args below meth c H locs cells slots Q (F0 m (pc) ls (.int (zI v) :: .int (zI i) :: .ref (ad (11, 26)) :: rest)) := by
  have hi : (11, 26) ∈ zid true u := zid_r (by decide +kernel)
  obtain ⟨q0, h0⟩ := zw_at (ad := ad) (y := y) (r := r) hi
  refine va_iast M.1 M.2.1 M.2.2.2.2 hW.1 hW.2 hS q0 0 h0 rfl (zI_in hz) hd (fun H1 locs1 hP hD hS => kk H1 locs1 ?_ hS)
  have E := zw_set (v := u) (w := tA r 26 i.toNat v) (e := .inl (y 0, 5, .inl (upd (fun j => zI (rA r 26 j)) i.toNat (zI v)))) hW.2 h0 hi rfl (by show (.inl (y 0, 5, .inl (fun j => zI (rA (tA r 26 i.toNat v) 26 j))) : va_E) = _; rw [rA_row]) (fun j _ hj => zo_tA26 hj)
  have hP : va_P D ZCL ((zws true ad y u r).set q0 (ad (11, 26), .inl (y 0, 5, .inl (upd (fun j => zI (rA r 26 j)) i.toNat (zI v))))) H1 := by
    have h9 := hP
    rw [zI_cl hz] at h9
    exact h9
  have hD : va_D (fun x => B ≤ x) ((zws true ad y u r).set q0 (ad (11, 26), .inl (y 0, 5, .inl (upd (fun j => zI (rA r 26 j)) i.toNat (zI v))))) := by
    have h9 := hD
    rw [zI_cl hz] at h9
    exact h9
  rw [E] at hP hD
  exact ⟨hP, hD⟩
theorem zr_27 {own : String} {i : Int} (M : ZM p c cc s args m own D y) (hW : ZW D B y ad true u r H) (hz : zix i 5) (hd : decode cc pc = .ok (.iaload, 1)) (k : W p l e R s m args below meth c H locs cells slots Q (F0 m (pc + 1) ls (.int (zI (rA r 27 i.toNat)) :: rest))) : W p l e R s m args below meth c H locs cells slots Q (F0 m (pc) ls (.int (zI i) :: .ref (ad (11, 27)) :: rest)) := by
  obtain ⟨q0, h0⟩ := zw_at (ad := ad) (y := y) (r := r) (show (11, 27) ∈ zid true u from zid_r (by decide +kernel))
  exact va_iald M.1 M.2.1 M.2.2.2.2 hW.1 q0 0 h0 rfl (zI_in hz) hd (by rw [zI_cl hz]; exact k)
theorem zo_tA27 {ad : Nat × Nat → Nat} {y : Nat → ClassId} {u : ZC} {r : ZR} {i : Nat} {v : Int} {j : Nat × Nat} (hj : j ≠ (11, 27)) : zcell ad y u (tA r 27 i v) j = zcell ad y u r j := by
  unfold zcell; split <;> first | rfl | (exact absurd rfl hj) | (split <;> first | rfl | simp_all)
theorem zw_27 {own : String} {i : Int} {v : Int} (M : ZM p c cc s args m own D y) (hW : ZW D B y ad true u r H) (hS : va_S (fun x => B ≤ x) H0 H locs) (hz : zix i 5) (hd : decode cc pc = .ok (.iastore, 1)) (kk : ∀ (H1 : Heap) (locs1 : List Loc), ZW D B y ad true (u) (tA r 27 i.toNat v) H1 → va_S (fun x => B ≤ x) H0 H1 locs1 → W p l e R s m args below meth c H1 locs1 cells slots Q (F0 m (pc + 1) ls (rest))) : W p l e R s m args below meth c H locs cells slots Q (F0 m (pc) ls (.int (zI v) :: .int (zI i) :: .ref (ad (11, 27)) :: rest)) := by
  have hi : (11, 27) ∈ zid true u := zid_r (by decide +kernel)
  obtain ⟨q0, h0⟩ := zw_at (ad := ad) (y := y) (r := r) hi
  refine va_iast M.1 M.2.1 M.2.2.2.2 hW.1 hW.2 hS q0 0 h0 rfl (zI_in hz) hd (fun H1 locs1 hP hD hS => kk H1 locs1 ?_ hS)
  have E := zw_set (v := u) (w := tA r 27 i.toNat v) (e := .inl (y 0, 5, .inl (upd (fun j => zI (rA r 27 j)) i.toNat (zI v)))) hW.2 h0 hi rfl (by show (.inl (y 0, 5, .inl (fun j => zI (rA (tA r 27 i.toNat v) 27 j))) : va_E) = _; rw [rA_row]) (fun j _ hj => zo_tA27 hj)
  have hP : va_P D ZCL ((zws true ad y u r).set q0 (ad (11, 27), .inl (y 0, 5, .inl (upd (fun j => zI (rA r 27 j)) i.toNat (zI v))))) H1 := by
    have h9 := hP
    rw [zI_cl hz] at h9
    exact h9
  have hD : va_D (fun x => B ≤ x) ((zws true ad y u r).set q0 (ad (11, 27), .inl (y 0, 5, .inl (upd (fun j => zI (rA r 27 j)) i.toNat (zI v))))) := by
    have h9 := hD
    rw [zI_cl hz] at h9
    exact h9
  rw [E] at hP hD
  exact ⟨hP, hD⟩
theorem zr_28 {own : String} {i : Int} (M : ZM p c cc s args m own D y) (hW : ZW D B y ad true u r H) (hz : zix i 5) (hd : decode cc pc = .ok (.baload, 1)) (k : W p l e R s m args below meth c H locs cells slots Q (F0 m (pc + 1) ls (.int (zI (rA r 28 i.toNat)) :: rest))) : W p l e R s m args below meth c H locs cells slots Q (F0 m (pc) ls (.int (zI i) :: .ref (ad (11, 28)) :: rest)) := by
  obtain ⟨q0, h0⟩ := zw_at (ad := ad) (y := y) (r := r) (show (11, 28) ∈ zid true u from zid_r (by decide +kernel))
  exact va_zald M.1 M.2.1 M.2.2.2.2 hW.1 q0 2 h0 rfl (zI_in hz) hd (by rw [zI_cl hz]; exact k)
theorem zo_tA28 {ad : Nat × Nat → Nat} {y : Nat → ClassId} {u : ZC} {r : ZR} {i : Nat} {v : Int} {j : Nat × Nat} (hj : j ≠ (11, 28)) : zcell ad y u (tA r 28 i v) j = zcell ad y u r j := by
  unfold zcell; split <;> first | rfl | (exact absurd rfl hj) | (split <;> first | rfl | simp_all)
theorem zw_28 {own : String} {i : Int} {v : Int} (M : ZM p c cc s args m own D y) (hW : ZW D B y ad true u r H) (hS : va_S (fun x => B ≤ x) H0 H locs) (hc : zbl v) (hz : zix i 5) (hd : decode cc pc = .ok (.bastore, 1)) (kk : ∀ (H1 : Heap) (locs1 : List Loc), ZW D B y ad true (u) (tA r 28 i.toNat v) H1 → va_S (fun x => B ≤ x) H0 H1 locs1 → W p l e R s m args below meth c H1 locs1 cells slots Q (F0 m (pc + 1) ls (rest))) : W p l e R s m args below meth c H locs cells slots Q (F0 m (pc) ls (.int (zI v) :: .int (zI i) :: .ref (ad (11, 28)) :: rest)) := by
  have hi : (11, 28) ∈ zid true u := zid_r (by decide +kernel)
  obtain ⟨q0, h0⟩ := zw_at (ad := ad) (y := y) (r := r) hi
  refine va_zast M.1 M.2.1 M.2.2.2.2 hW.1 hW.2 hS q0 2 h0 rfl (zI_in hz) hd (fun H1 locs1 hP hD hS => kk H1 locs1 ?_ hS)
  have E := zw_set (v := u) (w := tA r 28 i.toNat v) (e := .inl (y 2, 5, .inl (upd (fun j => zI (rA r 28 j)) i.toNat (zI v)))) hW.2 h0 hi rfl (by show (.inl (y 2, 5, .inl (fun j => zI (rA (tA r 28 i.toNat v) 28 j))) : va_E) = _; rw [rA_row]) (fun j _ hj => zo_tA28 hj)
  have hP : va_P D ZCL ((zws true ad y u r).set q0 (ad (11, 28), .inl (y 2, 5, .inl (upd (fun j => zI (rA r 28 j)) i.toNat (zI v))))) H1 := by
    have h9 := hP
    rw [zI_cl hz, znz hc] at h9
    exact h9
  have hD : va_D (fun x => B ≤ x) ((zws true ad y u r).set q0 (ad (11, 28), .inl (y 2, 5, .inl (upd (fun j => zI (rA r 28 j)) i.toNat (zI v))))) := by
    have h9 := hD
    rw [zI_cl hz, znz hc] at h9
    exact h9
  rw [E] at hP hD
  exact ⟨hP, hD⟩
theorem zr_29 {own : String} {i : Int} (M : ZM p c cc s args m own D y) (hW : ZW D B y ad true u r H) (hz : zix i 5) (hd : decode cc pc = .ok (.baload, 1)) (k : W p l e R s m args below meth c H locs cells slots Q (F0 m (pc + 1) ls (.int (zI (rA r 29 i.toNat)) :: rest))) : W p l e R s m args below meth c H locs cells slots Q (F0 m (pc) ls (.int (zI i) :: .ref (ad (11, 29)) :: rest)) := by
  obtain ⟨q0, h0⟩ := zw_at (ad := ad) (y := y) (r := r) (show (11, 29) ∈ zid true u from zid_r (by decide +kernel))
  exact va_zald M.1 M.2.1 M.2.2.2.2 hW.1 q0 2 h0 rfl (zI_in hz) hd (by rw [zI_cl hz]; exact k)
theorem zo_tA29 {ad : Nat × Nat → Nat} {y : Nat → ClassId} {u : ZC} {r : ZR} {i : Nat} {v : Int} {j : Nat × Nat} (hj : j ≠ (11, 29)) : zcell ad y u (tA r 29 i v) j = zcell ad y u r j := by
  unfold zcell; split <;> first | rfl | (exact absurd rfl hj) | (split <;> first | rfl | simp_all)
theorem zw_29 {own : String} {i : Int} {v : Int} (M : ZM p c cc s args m own D y) (hW : ZW D B y ad true u r H) (hS : va_S (fun x => B ≤ x) H0 H locs) (hc : zbl v) (hz : zix i 5) (hd : decode cc pc = .ok (.bastore, 1)) (kk : ∀ (H1 : Heap) (locs1 : List Loc), ZW D B y ad true (u) (tA r 29 i.toNat v) H1 → va_S (fun x => B ≤ x) H0 H1 locs1 → W p l e R s m args below meth c H1 locs1 cells slots Q (F0 m (pc + 1) ls (rest))) : W p l e R s m args below meth c H locs cells slots Q (F0 m (pc) ls (.int (zI v) :: .int (zI i) :: .ref (ad (11, 29)) :: rest)) := by
  have hi : (11, 29) ∈ zid true u := zid_r (by decide +kernel)
  obtain ⟨q0, h0⟩ := zw_at (ad := ad) (y := y) (r := r) hi
  refine va_zast M.1 M.2.1 M.2.2.2.2 hW.1 hW.2 hS q0 2 h0 rfl (zI_in hz) hd (fun H1 locs1 hP hD hS => kk H1 locs1 ?_ hS)
  have E := zw_set (v := u) (w := tA r 29 i.toNat v) (e := .inl (y 2, 5, .inl (upd (fun j => zI (rA r 29 j)) i.toNat (zI v)))) hW.2 h0 hi rfl (by show (.inl (y 2, 5, .inl (fun j => zI (rA (tA r 29 i.toNat v) 29 j))) : va_E) = _; rw [rA_row]) (fun j _ hj => zo_tA29 hj)
  have hP : va_P D ZCL ((zws true ad y u r).set q0 (ad (11, 29), .inl (y 2, 5, .inl (upd (fun j => zI (rA r 29 j)) i.toNat (zI v))))) H1 := by
    have h9 := hP
    rw [zI_cl hz, znz hc] at h9
    exact h9
  have hD : va_D (fun x => B ≤ x) ((zws true ad y u r).set q0 (ad (11, 29), .inl (y 2, 5, .inl (upd (fun j => zI (rA r 29 j)) i.toNat (zI v))))) := by
    have h9 := hD
    rw [zI_cl hz, znz hc] at h9
    exact h9
  rw [E] at hP hD
  exact ⟨hP, hD⟩
theorem zr_30 {own : String} {i : Int} (M : ZM p c cc s args m own D y) (hW : ZW D B y ad true u r H) (hz : zix i 480) (hd : decode cc pc = .ok (.iaload, 1)) (k : W p l e R s m args below meth c H locs cells slots Q (F0 m (pc + 1) ls (.int (zI (rA r 30 i.toNat)) :: rest))) : W p l e R s m args below meth c H locs cells slots Q (F0 m (pc) ls (.int (zI i) :: .ref (ad (11, 30)) :: rest)) := by
  obtain ⟨q0, h0⟩ := zw_at (ad := ad) (y := y) (r := r) (show (11, 30) ∈ zid true u from zid_r (by decide +kernel))
  exact va_iald M.1 M.2.1 M.2.2.2.2 hW.1 q0 0 h0 rfl (zI_in hz) hd (by rw [zI_cl hz]; exact k)
theorem zo_tA30 {ad : Nat × Nat → Nat} {y : Nat → ClassId} {u : ZC} {r : ZR} {i : Nat} {v : Int} {j : Nat × Nat} (hj : j ≠ (11, 30)) : zcell ad y u (tA r 30 i v) j = zcell ad y u r j := by
  unfold zcell; split <;> first | rfl | (exact absurd rfl hj) | (split <;> first | rfl | simp_all)
theorem zw_30 {own : String} {i : Int} {v : Int} (M : ZM p c cc s args m own D y) (hW : ZW D B y ad true u r H) (hS : va_S (fun x => B ≤ x) H0 H locs) (hz : zix i 480) (hd : decode cc pc = .ok (.iastore, 1)) (kk : ∀ (H1 : Heap) (locs1 : List Loc), ZW D B y ad true (u) (tA r 30 i.toNat v) H1 → va_S (fun x => B ≤ x) H0 H1 locs1 → W p l e R s m args below meth c H1 locs1 cells slots Q (F0 m (pc + 1) ls (rest))) : W p l e R s m args below meth c H locs cells slots Q (F0 m (pc) ls (.int (zI v) :: .int (zI i) :: .ref (ad (11, 30)) :: rest)) := by
  have hi : (11, 30) ∈ zid true u := zid_r (by decide +kernel)
  obtain ⟨q0, h0⟩ := zw_at (ad := ad) (y := y) (r := r) hi
  refine va_iast M.1 M.2.1 M.2.2.2.2 hW.1 hW.2 hS q0 0 h0 rfl (zI_in hz) hd (fun H1 locs1 hP hD hS => kk H1 locs1 ?_ hS)
  have E := zw_set (v := u) (w := tA r 30 i.toNat v) (e := .inl (y 0, 480, .inl (upd (fun j => zI (rA r 30 j)) i.toNat (zI v)))) hW.2 h0 hi rfl (by show (.inl (y 0, 480, .inl (fun j => zI (rA (tA r 30 i.toNat v) 30 j))) : va_E) = _; rw [rA_row]) (fun j _ hj => zo_tA30 hj)
  have hP : va_P D ZCL ((zws true ad y u r).set q0 (ad (11, 30), .inl (y 0, 480, .inl (upd (fun j => zI (rA r 30 j)) i.toNat (zI v))))) H1 := by
    have h9 := hP
    rw [zI_cl hz] at h9
    exact h9
  have hD : va_D (fun x => B ≤ x) ((zws true ad y u r).set q0 (ad (11, 30), .inl (y 0, 480, .inl (upd (fun j => zI (rA r 30 j)) i.toNat (zI v))))) := by
    have h9 := hD
    rw [zI_cl hz] at h9
    exact h9
  rw [E] at hP hD
  exact ⟨hP, hD⟩
theorem zr_31 {own : String} {i : Int} (M : ZM p c cc s args m own D y) (hW : ZW D B y ad true u r H) (hz : zix i 5) (hd : decode cc pc = .ok (.iaload, 1)) (k : W p l e R s m args below meth c H locs cells slots Q (F0 m (pc + 1) ls (.int (zI (rA r 31 i.toNat)) :: rest))) : W p l e R s m args below meth c H locs cells slots Q (F0 m (pc) ls (.int (zI i) :: .ref (ad (11, 31)) :: rest)) := by
  obtain ⟨q0, h0⟩ := zw_at (ad := ad) (y := y) (r := r) (show (11, 31) ∈ zid true u from zid_r (by decide +kernel))
  exact va_iald M.1 M.2.1 M.2.2.2.2 hW.1 q0 0 h0 rfl (zI_in hz) hd (by rw [zI_cl hz]; exact k)
theorem zo_tA31 {ad : Nat × Nat → Nat} {y : Nat → ClassId} {u : ZC} {r : ZR} {i : Nat} {v : Int} {j : Nat × Nat} (hj : j ≠ (11, 31)) : zcell ad y u (tA r 31 i v) j = zcell ad y u r j := by
  unfold zcell; split <;> first | rfl | (exact absurd rfl hj) | (split <;> first | rfl | simp_all)
theorem zw_31 {own : String} {i : Int} {v : Int} (M : ZM p c cc s args m own D y) (hW : ZW D B y ad true u r H) (hS : va_S (fun x => B ≤ x) H0 H locs) (hz : zix i 5) (hd : decode cc pc = .ok (.iastore, 1)) (kk : ∀ (H1 : Heap) (locs1 : List Loc), ZW D B y ad true (u) (tA r 31 i.toNat v) H1 → va_S (fun x => B ≤ x) H0 H1 locs1 → W p l e R s m args below meth c H1 locs1 cells slots Q (F0 m (pc + 1) ls (rest))) : W p l e R s m args below meth c H locs cells slots Q (F0 m (pc) ls (.int (zI v) :: .int (zI i) :: .ref (ad (11, 31)) :: rest)) := by
  have hi : (11, 31) ∈ zid true u := zid_r (by decide +kernel)
  obtain ⟨q0, h0⟩ := zw_at (ad := ad) (y := y) (r := r) hi
  refine va_iast M.1 M.2.1 M.2.2.2.2 hW.1 hW.2 hS q0 0 h0 rfl (zI_in hz) hd (fun H1 locs1 hP hD hS => kk H1 locs1 ?_ hS)
  have E := zw_set (v := u) (w := tA r 31 i.toNat v) (e := .inl (y 0, 5, .inl (upd (fun j => zI (rA r 31 j)) i.toNat (zI v)))) hW.2 h0 hi rfl (by show (.inl (y 0, 5, .inl (fun j => zI (rA (tA r 31 i.toNat v) 31 j))) : va_E) = _; rw [rA_row]) (fun j _ hj => zo_tA31 hj)
  have hP : va_P D ZCL ((zws true ad y u r).set q0 (ad (11, 31), .inl (y 0, 5, .inl (upd (fun j => zI (rA r 31 j)) i.toNat (zI v))))) H1 := by
    have h9 := hP
    rw [zI_cl hz] at h9
    exact h9
  have hD : va_D (fun x => B ≤ x) ((zws true ad y u r).set q0 (ad (11, 31), .inl (y 0, 5, .inl (upd (fun j => zI (rA r 31 j)) i.toNat (zI v))))) := by
    have h9 := hD
    rw [zI_cl hz] at h9
    exact h9
  rw [E] at hP hD
  exact ⟨hP, hD⟩
theorem zr_32 {own : String} {i : Int} (M : ZM p c cc s args m own D y) (hW : ZW D B y ad true u r H) (hz : zix i 1600) (hd : decode cc pc = .ok (.iaload, 1)) (k : W p l e R s m args below meth c H locs cells slots Q (F0 m (pc + 1) ls (.int (zI (rA r 32 i.toNat)) :: rest))) : W p l e R s m args below meth c H locs cells slots Q (F0 m (pc) ls (.int (zI i) :: .ref (ad (11, 32)) :: rest)) := by
  obtain ⟨q0, h0⟩ := zw_at (ad := ad) (y := y) (r := r) (show (11, 32) ∈ zid true u from zid_r (by decide +kernel))
  exact va_iald M.1 M.2.1 M.2.2.2.2 hW.1 q0 0 h0 rfl (zI_in hz) hd (by rw [zI_cl hz]; exact k)
theorem zo_tA32 {ad : Nat × Nat → Nat} {y : Nat → ClassId} {u : ZC} {r : ZR} {i : Nat} {v : Int} {j : Nat × Nat} (hj : j ≠ (11, 32)) : zcell ad y u (tA r 32 i v) j = zcell ad y u r j := by
  unfold zcell; split <;> first | rfl | (exact absurd rfl hj) | (split <;> first | rfl | simp_all)
theorem zw_32 {own : String} {i : Int} {v : Int} (M : ZM p c cc s args m own D y) (hW : ZW D B y ad true u r H) (hS : va_S (fun x => B ≤ x) H0 H locs) (hz : zix i 1600) (hd : decode cc pc = .ok (.iastore, 1)) (kk : ∀ (H1 : Heap) (locs1 : List Loc), ZW D B y ad true (u) (tA r 32 i.toNat v) H1 → va_S (fun x => B ≤ x) H0 H1 locs1 → W p l e R s m args below meth c H1 locs1 cells slots Q (F0 m (pc + 1) ls (rest))) : W p l e R s m args below meth c H locs cells slots Q (F0 m (pc) ls (.int (zI v) :: .int (zI i) :: .ref (ad (11, 32)) :: rest)) := by
  have hi : (11, 32) ∈ zid true u := zid_r (by decide +kernel)
  obtain ⟨q0, h0⟩ := zw_at (ad := ad) (y := y) (r := r) hi
  refine va_iast M.1 M.2.1 M.2.2.2.2 hW.1 hW.2 hS q0 0 h0 rfl (zI_in hz) hd (fun H1 locs1 hP hD hS => kk H1 locs1 ?_ hS)
  have E := zw_set (v := u) (w := tA r 32 i.toNat v) (e := .inl (y 0, 1600, .inl (upd (fun j => zI (rA r 32 j)) i.toNat (zI v)))) hW.2 h0 hi rfl (by show (.inl (y 0, 1600, .inl (fun j => zI (rA (tA r 32 i.toNat v) 32 j))) : va_E) = _; rw [rA_row]) (fun j _ hj => zo_tA32 hj)
  have hP : va_P D ZCL ((zws true ad y u r).set q0 (ad (11, 32), .inl (y 0, 1600, .inl (upd (fun j => zI (rA r 32 j)) i.toNat (zI v))))) H1 := by
    have h9 := hP
    rw [zI_cl hz] at h9
    exact h9
  have hD : va_D (fun x => B ≤ x) ((zws true ad y u r).set q0 (ad (11, 32), .inl (y 0, 1600, .inl (upd (fun j => zI (rA r 32 j)) i.toNat (zI v))))) := by
    have h9 := hD
    rw [zI_cl hz] at h9
    exact h9
  rw [E] at hP hD
  exact ⟨hP, hD⟩
theorem zr_33 {own : String} {i : Int} (M : ZM p c cc s args m own D y) (hW : ZW D B y ad true u r H) (hz : zix i 10) (hd : decode cc pc = .ok (.iaload, 1)) (k : W p l e R s m args below meth c H locs cells slots Q (F0 m (pc + 1) ls (.int (zI (rA r 33 i.toNat)) :: rest))) : W p l e R s m args below meth c H locs cells slots Q (F0 m (pc) ls (.int (zI i) :: .ref (ad (11, 33)) :: rest)) := by
  obtain ⟨q0, h0⟩ := zw_at (ad := ad) (y := y) (r := r) (show (11, 33) ∈ zid true u from zid_r (by decide +kernel))
  exact va_iald M.1 M.2.1 M.2.2.2.2 hW.1 q0 0 h0 rfl (zI_in hz) hd (by rw [zI_cl hz]; exact k)
theorem zo_tA33 {ad : Nat × Nat → Nat} {y : Nat → ClassId} {u : ZC} {r : ZR} {i : Nat} {v : Int} {j : Nat × Nat} (hj : j ≠ (11, 33)) : zcell ad y u (tA r 33 i v) j = zcell ad y u r j := by
  unfold zcell; split <;> first | rfl | (exact absurd rfl hj) | (split <;> first | rfl | simp_all)
theorem zw_33 {own : String} {i : Int} {v : Int} (M : ZM p c cc s args m own D y) (hW : ZW D B y ad true u r H) (hS : va_S (fun x => B ≤ x) H0 H locs) (hz : zix i 10) (hd : decode cc pc = .ok (.iastore, 1)) (kk : ∀ (H1 : Heap) (locs1 : List Loc), ZW D B y ad true (u) (tA r 33 i.toNat v) H1 → va_S (fun x => B ≤ x) H0 H1 locs1 → W p l e R s m args below meth c H1 locs1 cells slots Q (F0 m (pc + 1) ls (rest))) : W p l e R s m args below meth c H locs cells slots Q (F0 m (pc) ls (.int (zI v) :: .int (zI i) :: .ref (ad (11, 33)) :: rest)) := by
  have hi : (11, 33) ∈ zid true u := zid_r (by decide +kernel)
  obtain ⟨q0, h0⟩ := zw_at (ad := ad) (y := y) (r := r) hi
  refine va_iast M.1 M.2.1 M.2.2.2.2 hW.1 hW.2 hS q0 0 h0 rfl (zI_in hz) hd (fun H1 locs1 hP hD hS => kk H1 locs1 ?_ hS)
  have E := zw_set (v := u) (w := tA r 33 i.toNat v) (e := .inl (y 0, 10, .inl (upd (fun j => zI (rA r 33 j)) i.toNat (zI v)))) hW.2 h0 hi rfl (by show (.inl (y 0, 10, .inl (fun j => zI (rA (tA r 33 i.toNat v) 33 j))) : va_E) = _; rw [rA_row]) (fun j _ hj => zo_tA33 hj)
  have hP : va_P D ZCL ((zws true ad y u r).set q0 (ad (11, 33), .inl (y 0, 10, .inl (upd (fun j => zI (rA r 33 j)) i.toNat (zI v))))) H1 := by
    have h9 := hP
    rw [zI_cl hz] at h9
    exact h9
  have hD : va_D (fun x => B ≤ x) ((zws true ad y u r).set q0 (ad (11, 33), .inl (y 0, 10, .inl (upd (fun j => zI (rA r 33 j)) i.toNat (zI v))))) := by
    have h9 := hD
    rw [zI_cl hz] at h9
    exact h9
  rw [E] at hP hD
  exact ⟨hP, hD⟩
theorem zr_34 {own : String} {i : Int} (M : ZM p c cc s args m own D y) (hW : ZW D B y ad true u r H) (hz : zix i 96) (hd : decode cc pc = .ok (.iaload, 1)) (k : W p l e R s m args below meth c H locs cells slots Q (F0 m (pc + 1) ls (.int (zI (rA r 34 i.toNat)) :: rest))) : W p l e R s m args below meth c H locs cells slots Q (F0 m (pc) ls (.int (zI i) :: .ref (ad (11, 34)) :: rest)) := by
  obtain ⟨q0, h0⟩ := zw_at (ad := ad) (y := y) (r := r) (show (11, 34) ∈ zid true u from zid_r (by decide +kernel))
  exact va_iald M.1 M.2.1 M.2.2.2.2 hW.1 q0 0 h0 rfl (zI_in hz) hd (by rw [zI_cl hz]; exact k)
theorem zo_tA34 {ad : Nat × Nat → Nat} {y : Nat → ClassId} {u : ZC} {r : ZR} {i : Nat} {v : Int} {j : Nat × Nat} (hj : j ≠ (11, 34)) : zcell ad y u (tA r 34 i v) j = zcell ad y u r j := by
  unfold zcell; split <;> first | rfl | (exact absurd rfl hj) | (split <;> first | rfl | simp_all)
theorem zw_34 {own : String} {i : Int} {v : Int} (M : ZM p c cc s args m own D y) (hW : ZW D B y ad true u r H) (hS : va_S (fun x => B ≤ x) H0 H locs) (hz : zix i 96) (hd : decode cc pc = .ok (.iastore, 1)) (kk : ∀ (H1 : Heap) (locs1 : List Loc), ZW D B y ad true (u) (tA r 34 i.toNat v) H1 → va_S (fun x => B ≤ x) H0 H1 locs1 → W p l e R s m args below meth c H1 locs1 cells slots Q (F0 m (pc + 1) ls (rest))) : W p l e R s m args below meth c H locs cells slots Q (F0 m (pc) ls (.int (zI v) :: .int (zI i) :: .ref (ad (11, 34)) :: rest)) := by
  have hi : (11, 34) ∈ zid true u := zid_r (by decide +kernel)
  obtain ⟨q0, h0⟩ := zw_at (ad := ad) (y := y) (r := r) hi
  refine va_iast M.1 M.2.1 M.2.2.2.2 hW.1 hW.2 hS q0 0 h0 rfl (zI_in hz) hd (fun H1 locs1 hP hD hS => kk H1 locs1 ?_ hS)
  have E := zw_set (v := u) (w := tA r 34 i.toNat v) (e := .inl (y 0, 96, .inl (upd (fun j => zI (rA r 34 j)) i.toNat (zI v)))) hW.2 h0 hi rfl (by show (.inl (y 0, 96, .inl (fun j => zI (rA (tA r 34 i.toNat v) 34 j))) : va_E) = _; rw [rA_row]) (fun j _ hj => zo_tA34 hj)
  have hP : va_P D ZCL ((zws true ad y u r).set q0 (ad (11, 34), .inl (y 0, 96, .inl (upd (fun j => zI (rA r 34 j)) i.toNat (zI v))))) H1 := by
    have h9 := hP
    rw [zI_cl hz] at h9
    exact h9
  have hD : va_D (fun x => B ≤ x) ((zws true ad y u r).set q0 (ad (11, 34), .inl (y 0, 96, .inl (upd (fun j => zI (rA r 34 j)) i.toNat (zI v))))) := by
    have h9 := hD
    rw [zI_cl hz] at h9
    exact h9
  rw [E] at hP hD
  exact ⟨hP, hD⟩
theorem zr_37 {own : String} {i : Int} (M : ZM p c cc s args m own D y) (hW : ZW D B y ad true u r H) (hz : zix i 160) (hd : decode cc pc = .ok (.iaload, 1)) (k : W p l e R s m args below meth c H locs cells slots Q (F0 m (pc + 1) ls (.int (zI (rA r 37 i.toNat)) :: rest))) : W p l e R s m args below meth c H locs cells slots Q (F0 m (pc) ls (.int (zI i) :: .ref (ad (11, 37)) :: rest)) := by
  obtain ⟨q0, h0⟩ := zw_at (ad := ad) (y := y) (r := r) (show (11, 37) ∈ zid true u from zid_r (by decide +kernel))
  exact va_iald M.1 M.2.1 M.2.2.2.2 hW.1 q0 0 h0 rfl (zI_in hz) hd (by rw [zI_cl hz]; exact k)
theorem zo_tA37 {ad : Nat × Nat → Nat} {y : Nat → ClassId} {u : ZC} {r : ZR} {i : Nat} {v : Int} {j : Nat × Nat} (hj : j ≠ (11, 37)) : zcell ad y u (tA r 37 i v) j = zcell ad y u r j := by
  unfold zcell; split <;> first | rfl | (exact absurd rfl hj) | (split <;> first | rfl | simp_all)
theorem zw_37 {own : String} {i : Int} {v : Int} (M : ZM p c cc s args m own D y) (hW : ZW D B y ad true u r H) (hS : va_S (fun x => B ≤ x) H0 H locs) (hz : zix i 160) (hd : decode cc pc = .ok (.iastore, 1)) (kk : ∀ (H1 : Heap) (locs1 : List Loc), ZW D B y ad true (u) (tA r 37 i.toNat v) H1 → va_S (fun x => B ≤ x) H0 H1 locs1 → W p l e R s m args below meth c H1 locs1 cells slots Q (F0 m (pc + 1) ls (rest))) : W p l e R s m args below meth c H locs cells slots Q (F0 m (pc) ls (.int (zI v) :: .int (zI i) :: .ref (ad (11, 37)) :: rest)) := by
  have hi : (11, 37) ∈ zid true u := zid_r (by decide +kernel)
  obtain ⟨q0, h0⟩ := zw_at (ad := ad) (y := y) (r := r) hi
  refine va_iast M.1 M.2.1 M.2.2.2.2 hW.1 hW.2 hS q0 0 h0 rfl (zI_in hz) hd (fun H1 locs1 hP hD hS => kk H1 locs1 ?_ hS)
  have E := zw_set (v := u) (w := tA r 37 i.toNat v) (e := .inl (y 0, 160, .inl (upd (fun j => zI (rA r 37 j)) i.toNat (zI v)))) hW.2 h0 hi rfl (by show (.inl (y 0, 160, .inl (fun j => zI (rA (tA r 37 i.toNat v) 37 j))) : va_E) = _; rw [rA_row]) (fun j _ hj => zo_tA37 hj)
  have hP : va_P D ZCL ((zws true ad y u r).set q0 (ad (11, 37), .inl (y 0, 160, .inl (upd (fun j => zI (rA r 37 j)) i.toNat (zI v))))) H1 := by
    have h9 := hP
    rw [zI_cl hz] at h9
    exact h9
  have hD : va_D (fun x => B ≤ x) ((zws true ad y u r).set q0 (ad (11, 37), .inl (y 0, 160, .inl (upd (fun j => zI (rA r 37 j)) i.toNat (zI v))))) := by
    have h9 := hD
    rw [zI_cl hz] at h9
    exact h9
  rw [E] at hP hD
  exact ⟨hP, hD⟩
theorem zr_40 {own : String} {i : Int} (M : ZM p c cc s args m own D y) (hW : ZW D B y ad true u r H) (hz : zix i 161) (hd : decode cc pc = .ok (.iaload, 1)) (k : W p l e R s m args below meth c H locs cells slots Q (F0 m (pc + 1) ls (.int (zI (rA r 40 i.toNat)) :: rest))) : W p l e R s m args below meth c H locs cells slots Q (F0 m (pc) ls (.int (zI i) :: .ref (ad (11, 40)) :: rest)) := by
  obtain ⟨q0, h0⟩ := zw_at (ad := ad) (y := y) (r := r) (show (11, 40) ∈ zid true u from zid_r (by decide +kernel))
  exact va_iald M.1 M.2.1 M.2.2.2.2 hW.1 q0 0 h0 rfl (zI_in hz) hd (by rw [zI_cl hz]; exact k)
theorem zo_tA40 {ad : Nat × Nat → Nat} {y : Nat → ClassId} {u : ZC} {r : ZR} {i : Nat} {v : Int} {j : Nat × Nat} (hj : j ≠ (11, 40)) : zcell ad y u (tA r 40 i v) j = zcell ad y u r j := by
  unfold zcell; split <;> first | rfl | (exact absurd rfl hj) | (split <;> first | rfl | simp_all)
theorem zw_40 {own : String} {i : Int} {v : Int} (M : ZM p c cc s args m own D y) (hW : ZW D B y ad true u r H) (hS : va_S (fun x => B ≤ x) H0 H locs) (hz : zix i 161) (hd : decode cc pc = .ok (.iastore, 1)) (kk : ∀ (H1 : Heap) (locs1 : List Loc), ZW D B y ad true (u) (tA r 40 i.toNat v) H1 → va_S (fun x => B ≤ x) H0 H1 locs1 → W p l e R s m args below meth c H1 locs1 cells slots Q (F0 m (pc + 1) ls (rest))) : W p l e R s m args below meth c H locs cells slots Q (F0 m (pc) ls (.int (zI v) :: .int (zI i) :: .ref (ad (11, 40)) :: rest)) := by
  have hi : (11, 40) ∈ zid true u := zid_r (by decide +kernel)
  obtain ⟨q0, h0⟩ := zw_at (ad := ad) (y := y) (r := r) hi
  refine va_iast M.1 M.2.1 M.2.2.2.2 hW.1 hW.2 hS q0 0 h0 rfl (zI_in hz) hd (fun H1 locs1 hP hD hS => kk H1 locs1 ?_ hS)
  have E := zw_set (v := u) (w := tA r 40 i.toNat v) (e := .inl (y 0, 161, .inl (upd (fun j => zI (rA r 40 j)) i.toNat (zI v)))) hW.2 h0 hi rfl (by show (.inl (y 0, 161, .inl (fun j => zI (rA (tA r 40 i.toNat v) 40 j))) : va_E) = _; rw [rA_row]) (fun j _ hj => zo_tA40 hj)
  have hP : va_P D ZCL ((zws true ad y u r).set q0 (ad (11, 40), .inl (y 0, 161, .inl (upd (fun j => zI (rA r 40 j)) i.toNat (zI v))))) H1 := by
    have h9 := hP
    rw [zI_cl hz] at h9
    exact h9
  have hD : va_D (fun x => B ≤ x) ((zws true ad y u r).set q0 (ad (11, 40), .inl (y 0, 161, .inl (upd (fun j => zI (rA r 40 j)) i.toNat (zI v))))) := by
    have h9 := hD
    rw [zI_cl hz] at h9
    exact h9
  rw [E] at hP hD
  exact ⟨hP, hD⟩
theorem zr_41 {own : String} {i : Int} (M : ZM p c cc s args m own D y) (hW : ZW D B y ad true u r H) (hz : zix i 161) (hd : decode cc pc = .ok (.iaload, 1)) (k : W p l e R s m args below meth c H locs cells slots Q (F0 m (pc + 1) ls (.int (zI (rA r 41 i.toNat)) :: rest))) : W p l e R s m args below meth c H locs cells slots Q (F0 m (pc) ls (.int (zI i) :: .ref (ad (11, 41)) :: rest)) := by
  obtain ⟨q0, h0⟩ := zw_at (ad := ad) (y := y) (r := r) (show (11, 41) ∈ zid true u from zid_r (by decide +kernel))
  exact va_iald M.1 M.2.1 M.2.2.2.2 hW.1 q0 0 h0 rfl (zI_in hz) hd (by rw [zI_cl hz]; exact k)
theorem zo_tA41 {ad : Nat × Nat → Nat} {y : Nat → ClassId} {u : ZC} {r : ZR} {i : Nat} {v : Int} {j : Nat × Nat} (hj : j ≠ (11, 41)) : zcell ad y u (tA r 41 i v) j = zcell ad y u r j := by
  unfold zcell; split <;> first | rfl | (exact absurd rfl hj) | (split <;> first | rfl | simp_all)
theorem zw_41 {own : String} {i : Int} {v : Int} (M : ZM p c cc s args m own D y) (hW : ZW D B y ad true u r H) (hS : va_S (fun x => B ≤ x) H0 H locs) (hz : zix i 161) (hd : decode cc pc = .ok (.iastore, 1)) (kk : ∀ (H1 : Heap) (locs1 : List Loc), ZW D B y ad true (u) (tA r 41 i.toNat v) H1 → va_S (fun x => B ≤ x) H0 H1 locs1 → W p l e R s m args below meth c H1 locs1 cells slots Q (F0 m (pc + 1) ls (rest))) : W p l e R s m args below meth c H locs cells slots Q (F0 m (pc) ls (.int (zI v) :: .int (zI i) :: .ref (ad (11, 41)) :: rest)) := by
  have hi : (11, 41) ∈ zid true u := zid_r (by decide +kernel)
  obtain ⟨q0, h0⟩ := zw_at (ad := ad) (y := y) (r := r) hi
  refine va_iast M.1 M.2.1 M.2.2.2.2 hW.1 hW.2 hS q0 0 h0 rfl (zI_in hz) hd (fun H1 locs1 hP hD hS => kk H1 locs1 ?_ hS)
  have E := zw_set (v := u) (w := tA r 41 i.toNat v) (e := .inl (y 0, 161, .inl (upd (fun j => zI (rA r 41 j)) i.toNat (zI v)))) hW.2 h0 hi rfl (by show (.inl (y 0, 161, .inl (fun j => zI (rA (tA r 41 i.toNat v) 41 j))) : va_E) = _; rw [rA_row]) (fun j _ hj => zo_tA41 hj)
  have hP : va_P D ZCL ((zws true ad y u r).set q0 (ad (11, 41), .inl (y 0, 161, .inl (upd (fun j => zI (rA r 41 j)) i.toNat (zI v))))) H1 := by
    have h9 := hP
    rw [zI_cl hz] at h9
    exact h9
  have hD : va_D (fun x => B ≤ x) ((zws true ad y u r).set q0 (ad (11, 41), .inl (y 0, 161, .inl (upd (fun j => zI (rA r 41 j)) i.toNat (zI v))))) := by
    have h9 := hD
    rw [zI_cl hz] at h9
    exact h9
  rw [E] at hP hD
  exact ⟨hP, hD⟩
theorem zr_47 {own : String} {i : Int} (M : ZM p c cc s args m own D y) (hW : ZW D B y ad true u r H) (hz : zix i 96) (hd : decode cc pc = .ok (.iaload, 1)) (k : W p l e R s m args below meth c H locs cells slots Q (F0 m (pc + 1) ls (.int (zI (rA r 47 i.toNat)) :: rest))) : W p l e R s m args below meth c H locs cells slots Q (F0 m (pc) ls (.int (zI i) :: .ref (ad (11, 47)) :: rest)) := by
  obtain ⟨q0, h0⟩ := zw_at (ad := ad) (y := y) (r := r) (show (11, 47) ∈ zid true u from zid_r (by decide +kernel))
  exact va_iald M.1 M.2.1 M.2.2.2.2 hW.1 q0 0 h0 rfl (zI_in hz) hd (by rw [zI_cl hz]; exact k)
theorem zo_tA47 {ad : Nat × Nat → Nat} {y : Nat → ClassId} {u : ZC} {r : ZR} {i : Nat} {v : Int} {j : Nat × Nat} (hj : j ≠ (11, 47)) : zcell ad y u (tA r 47 i v) j = zcell ad y u r j := by
  unfold zcell; split <;> first | rfl | (exact absurd rfl hj) | (split <;> first | rfl | simp_all)
theorem zw_47 {own : String} {i : Int} {v : Int} (M : ZM p c cc s args m own D y) (hW : ZW D B y ad true u r H) (hS : va_S (fun x => B ≤ x) H0 H locs) (hz : zix i 96) (hd : decode cc pc = .ok (.iastore, 1)) (kk : ∀ (H1 : Heap) (locs1 : List Loc), ZW D B y ad true (u) (tA r 47 i.toNat v) H1 → va_S (fun x => B ≤ x) H0 H1 locs1 → W p l e R s m args below meth c H1 locs1 cells slots Q (F0 m (pc + 1) ls (rest))) : W p l e R s m args below meth c H locs cells slots Q (F0 m (pc) ls (.int (zI v) :: .int (zI i) :: .ref (ad (11, 47)) :: rest)) := by
  have hi : (11, 47) ∈ zid true u := zid_r (by decide +kernel)
  obtain ⟨q0, h0⟩ := zw_at (ad := ad) (y := y) (r := r) hi
  refine va_iast M.1 M.2.1 M.2.2.2.2 hW.1 hW.2 hS q0 0 h0 rfl (zI_in hz) hd (fun H1 locs1 hP hD hS => kk H1 locs1 ?_ hS)
  have E := zw_set (v := u) (w := tA r 47 i.toNat v) (e := .inl (y 0, 96, .inl (upd (fun j => zI (rA r 47 j)) i.toNat (zI v)))) hW.2 h0 hi rfl (by show (.inl (y 0, 96, .inl (fun j => zI (rA (tA r 47 i.toNat v) 47 j))) : va_E) = _; rw [rA_row]) (fun j _ hj => zo_tA47 hj)
  have hP : va_P D ZCL ((zws true ad y u r).set q0 (ad (11, 47), .inl (y 0, 96, .inl (upd (fun j => zI (rA r 47 j)) i.toNat (zI v))))) H1 := by
    have h9 := hP
    rw [zI_cl hz] at h9
    exact h9
  have hD : va_D (fun x => B ≤ x) ((zws true ad y u r).set q0 (ad (11, 47), .inl (y 0, 96, .inl (upd (fun j => zI (rA r 47 j)) i.toNat (zI v))))) := by
    have h9 := hD
    rw [zI_cl hz] at h9
    exact h9
  rw [E] at hP hD
  exact ⟨hP, hD⟩
end
