def RowAt (E : En) (k n : Nat) : Prop := k + 1 < 70 ∧ (∀ c, sh E k c = .inr (5, [.ref (eA E (k + 1))])) ∧ (∀ c, sh E (k + 1) c = .inl (eI E, n, .inl c.1))
theorem rk0 {E : En} {k n : Nat} (h : RowAt E k n) : k < 70 := by have := h.1; omega
theorem rk1 {E : En} {k n : Nat} (h : RowAt E k n) : k + 1 < 70 := h.1
theorem ra_2 (E : En) : RowAt E 2 200 := ⟨by decide, s_2 E, s_3 E⟩
theorem ra_6 (E : En) : RowAt E 6 3 := ⟨by decide, s_6 E, s_7 E⟩
theorem ra_8 (E : En) : RowAt E 8 8 := ⟨by decide, s_8 E, s_9 E⟩
theorem ra_11 (E : En) : RowAt E 11 3 := ⟨by decide, s_11 E, s_12 E⟩
theorem ra_13 (E : En) : RowAt E 13 8 := ⟨by decide, s_13 E, s_14 E⟩
theorem ra_16 (E : En) : RowAt E 16 12 := ⟨by decide, s_16 E, s_17 E⟩
theorem ra_18 (E : En) : RowAt E 18 12 := ⟨by decide, s_18 E, s_19 E⟩
theorem ra_20 (E : En) : RowAt E 20 12 := ⟨by decide, s_20 E, s_21 E⟩
theorem ra_24 (E : En) : RowAt E 24 12 := ⟨by decide, s_24 E, s_25 E⟩
theorem ra_26 (E : En) : RowAt E 26 12 := ⟨by decide, s_26 E, s_27 E⟩
theorem ra_28 (E : En) : RowAt E 28 12 := ⟨by decide, s_28 E, s_29 E⟩
theorem ra_32 (E : En) : RowAt E 32 12 := ⟨by decide, s_32 E, s_33 E⟩
theorem ra_34 (E : En) : RowAt E 34 12 := ⟨by decide, s_34 E, s_35 E⟩
theorem ra_36 (E : En) : RowAt E 36 12 := ⟨by decide, s_36 E, s_37 E⟩
theorem ra_40 (E : En) : RowAt E 40 296 := ⟨by decide, s_40 E, s_41 E⟩
theorem ra_42 (E : En) : RowAt E 42 313 := ⟨by decide, s_42 E, s_43 E⟩
theorem ra_44 (E : En) : RowAt E 44 40 := ⟨by decide, s_44 E, s_45 E⟩
theorem ra_46 (E : En) : RowAt E 46 13 := ⟨by decide, s_46 E, s_47 E⟩
theorem ra_48 (E : En) : RowAt E 48 156 := ⟨by decide, s_48 E, s_49 E⟩
theorem ra_51 (E : En) : RowAt E 51 20 := ⟨by decide, s_51 E, s_52 E⟩
theorem ra_53 (E : En) : RowAt E 53 20 := ⟨by decide, s_53 E, s_54 E⟩
theorem ra_55 (E : En) : RowAt E 55 400 := ⟨by decide, s_55 E, s_56 E⟩
theorem j_nmL {E : En} {X : Cx} {Q : State → Prop} {S : Mem} {pc i : Nat} {lv : List (Nat × Value)} {st : List Value} {β : Type} {x : Int32} {A1 : Int32 → Option β} {o : β} (h : lt_ x A1 = some o) (kk : ∀ y, A1 y = some o → J E X Q S pc ((i, .int y) :: lv) st) : J E X Q S pc ((i, .int x) :: lv) st := kk x h
theorem j_nmLL {E : En} {X : Cx} {Q : State → Prop} {S : Mem} {pc i : Nat} {lv : List (Nat × Value)} {st : List Value} {β : Type} {x : Int64} {A1 : Int64 → Option β} {o : β} (h : lt_ x A1 = some o) (kk : ∀ y, A1 y = some o → J E X Q S pc ((i, .long y) :: lv) st) : J E X Q S pc ((i, .long x) :: lv) st := kk x h
theorem j_nmT {E : En} {X : Cx} {Q : State → Prop} {S : Mem} {pc : Nat} {lv : List (Nat × Value)} {st : List Value} {β : Type} {x : Int32} {A1 : Int32 → Option β} {o : β} (h : lt_ x A1 = some o) (kk : ∀ y, A1 y = some o → J E X Q S pc lv (.int y :: st)) : J E X Q S pc lv (.int x :: st) := kk x h
theorem j_nmM {E : En} {X : Cx} {Q : State → Prop} {S : Mem} {pc : Nat} {lv : List (Nat × Value)} {st : List Value} {β : Type} {A1 : Mem → Option β} {o : β} (h : lt_ S A1 = some o) (kk : ∀ S1, A1 S1 = some o → J E X Q S1 pc lv st) : J E X Q S pc lv st := kk S h
theorem zg_some {α : Type} {x : Int32} {A1 : Option α} {o : α} (h : (if x = 0 ∨ x = 1 then A1 else none) = some o) : (x = 0 ∨ x = 1) ∧ A1 = some o := by
  by_cases c : x = 0 ∨ x = 1
  · rw [if_pos c] at h; exact ⟨c, h⟩
  · rw [if_neg c] at h; cases h
theorem zg_nar {x : Int32} (h : x = 0 ∨ x = 1) : narrow .boolean (.int x) = .int x := by rcases h with rfl | rfl <;> decide
theorem ret1 {α : Type} {a o : α} (h : some a = some o) : o = a := (Option.some.inj h).symm
theorem ne_toInt {x v : Int32} (h : ¬ x = v) : x.toInt ≠ v.toInt := fun e => h (Int32.toInt_inj.mp e)
theorem j_callV_i {E : En} {X : Cx} {Q : State → Prop} {S : Mem} {cc : ByteArray} {own : String} {nL d pc : Nat} {ret : Option FieldType} {lv : List (Nat × Value)} {st : List Value} (hF : Fx E X cc own nL ret d) {y : MethodName} {bytes : ByteArray} {maxL d2 idx n k ci N : Nat} {ret2 : Option FieldType} {As st0 : List Value} {v : Int32} {S2 : Mem} {fs : List Value} {C : String} {T : u_T} (e0 : As.reverse ++ .ref (eA E k) :: st = st0) (hm : MV y bytes maxL ret2 C n) (hk : k < 70) (hs : sh E k (S k) = .inr (ci, fs)) (hcl : classes[ci]? = some (C, T, N)) (wl : Cond.methodLink own idx y ∈ BIG) (hn : As.length = n) (hdd : d2 + 1 ≤ d) (hst : (st.map fun v => v.category).sum ≤ 8) (hd : decode cc pc = .ok (.invokevirtual idx, 3)) (hM : CT E y bytes maxL ret2 d2 (.ref (eA E k) :: As) S (some (.int v)) S2) (kk : J E X Q S2 (pc + 3) lv (.int v :: st)) : J E X Q S pc lv st0 := by
  rw [← e0]
  exact j_callV hF hm hk hs hcl wl hn hdd hst hd hM kk
theorem j_callS_i {E : En} {X : Cx} {Q : State → Prop} {S : Mem} {cc : ByteArray} {own : String} {nL d pc : Nat} {ret : Option FieldType} {lv : List (Nat × Value)} {st : List Value} (hF : Fx E X cc own nL ret d) {y : MethodName} {bytes : ByteArray} {maxL d2 idx n : Nat} {ret2 : Option FieldType} {As st0 : List Value} {v : Int32} {S2 : Mem} (e0 : As.reverse ++ st = st0) (hm : MS y bytes maxL ret2 n) (wl : Cond.methodLink own idx y ∈ BIG) (hn : As.length = n) (hdd : d2 + 1 ≤ d) (hst : (st.map fun v => v.category).sum ≤ 8) (hd : decode cc pc = .ok (.invokestatic idx, 3)) (hM : CT E y bytes maxL ret2 d2 As S (some (.int v)) S2) (kk : J E X Q S2 (pc + 3) lv (.int v :: st)) : J E X Q S pc lv st0 := by
  rw [← e0]
  exact j_callS hF hm wl hn hdd hst hd hM kk
theorem j_callV_l {E : En} {X : Cx} {Q : State → Prop} {S : Mem} {cc : ByteArray} {own : String} {nL d pc : Nat} {ret : Option FieldType} {lv : List (Nat × Value)} {st : List Value} (hF : Fx E X cc own nL ret d) {y : MethodName} {bytes : ByteArray} {maxL d2 idx n k ci N : Nat} {ret2 : Option FieldType} {As st0 : List Value} {v : Int64} {S2 : Mem} {fs : List Value} {C : String} {T : u_T} (e0 : As.reverse ++ .ref (eA E k) :: st = st0) (hm : MV y bytes maxL ret2 C n) (hk : k < 70) (hs : sh E k (S k) = .inr (ci, fs)) (hcl : classes[ci]? = some (C, T, N)) (wl : Cond.methodLink own idx y ∈ BIG) (hn : As.length = n) (hdd : d2 + 1 ≤ d) (hst : (st.map fun v => v.category).sum ≤ 8) (hd : decode cc pc = .ok (.invokevirtual idx, 3)) (hM : CT E y bytes maxL ret2 d2 (.ref (eA E k) :: As) S (some (.long v)) S2) (kk : J E X Q S2 (pc + 3) lv (.long v :: st)) : J E X Q S pc lv st0 := by
  rw [← e0]
  exact j_callV hF hm hk hs hcl wl hn hdd hst hd hM kk
theorem j_callS_l {E : En} {X : Cx} {Q : State → Prop} {S : Mem} {cc : ByteArray} {own : String} {nL d pc : Nat} {ret : Option FieldType} {lv : List (Nat × Value)} {st : List Value} (hF : Fx E X cc own nL ret d) {y : MethodName} {bytes : ByteArray} {maxL d2 idx n : Nat} {ret2 : Option FieldType} {As st0 : List Value} {v : Int64} {S2 : Mem} (e0 : As.reverse ++ st = st0) (hm : MS y bytes maxL ret2 n) (wl : Cond.methodLink own idx y ∈ BIG) (hn : As.length = n) (hdd : d2 + 1 ≤ d) (hst : (st.map fun v => v.category).sum ≤ 8) (hd : decode cc pc = .ok (.invokestatic idx, 3)) (hM : CT E y bytes maxL ret2 d2 As S (some (.long v)) S2) (kk : J E X Q S2 (pc + 3) lv (.long v :: st)) : J E X Q S pc lv st0 := by
  rw [← e0]
  exact j_callS hF hm wl hn hdd hst hd hM kk
theorem j_callV_v {E : En} {X : Cx} {Q : State → Prop} {S : Mem} {cc : ByteArray} {own : String} {nL d pc : Nat} {ret : Option FieldType} {lv : List (Nat × Value)} {st : List Value} (hF : Fx E X cc own nL ret d) {y : MethodName} {bytes : ByteArray} {maxL d2 idx n k ci N : Nat} {ret2 : Option FieldType} {As st0 : List Value}  {S2 : Mem} {fs : List Value} {C : String} {T : u_T} (e0 : As.reverse ++ .ref (eA E k) :: st = st0) (hm : MV y bytes maxL ret2 C n) (hk : k < 70) (hs : sh E k (S k) = .inr (ci, fs)) (hcl : classes[ci]? = some (C, T, N)) (wl : Cond.methodLink own idx y ∈ BIG) (hn : As.length = n) (hdd : d2 + 1 ≤ d) (hst : (st.map fun v => v.category).sum ≤ 8) (hd : decode cc pc = .ok (.invokevirtual idx, 3)) (hM : CT E y bytes maxL ret2 d2 (.ref (eA E k) :: As) S (none) S2) (kk : J E X Q S2 (pc + 3) lv (st)) : J E X Q S pc lv st0 := by
  rw [← e0]
  exact j_callV hF hm hk hs hcl wl hn hdd hst hd hM kk
theorem j_callS_v {E : En} {X : Cx} {Q : State → Prop} {S : Mem} {cc : ByteArray} {own : String} {nL d pc : Nat} {ret : Option FieldType} {lv : List (Nat × Value)} {st : List Value} (hF : Fx E X cc own nL ret d) {y : MethodName} {bytes : ByteArray} {maxL d2 idx n : Nat} {ret2 : Option FieldType} {As st0 : List Value}  {S2 : Mem} (e0 : As.reverse ++ st = st0) (hm : MS y bytes maxL ret2 n) (wl : Cond.methodLink own idx y ∈ BIG) (hn : As.length = n) (hdd : d2 + 1 ≤ d) (hst : (st.map fun v => v.category).sum ≤ 8) (hd : decode cc pc = .ok (.invokestatic idx, 3)) (hM : CT E y bytes maxL ret2 d2 As S (none) S2) (kk : J E X Q S2 (pc + 3) lv (st)) : J E X Q S pc lv st0 := by
  rw [← e0]
  exact j_callS hF hm wl hn hdd hst hd hM kk
theorem j_callV_r {E : En} {X : Cx} {Q : State → Prop} {S : Mem} {cc : ByteArray} {own : String} {nL d pc : Nat} {ret : Option FieldType} {lv : List (Nat × Value)} {st : List Value} (hF : Fx E X cc own nL ret d) {y : MethodName} {bytes : ByteArray} {maxL d2 idx n k ci N : Nat} {ret2 : Option FieldType} {As st0 : List Value} {v : Nat} {S2 : Mem} {fs : List Value} {C : String} {T : u_T} (e0 : As.reverse ++ .ref (eA E k) :: st = st0) (hm : MV y bytes maxL ret2 C n) (hk : k < 70) (hs : sh E k (S k) = .inr (ci, fs)) (hcl : classes[ci]? = some (C, T, N)) (wl : Cond.methodLink own idx y ∈ BIG) (hn : As.length = n) (hdd : d2 + 1 ≤ d) (hst : (st.map fun v => v.category).sum ≤ 8) (hd : decode cc pc = .ok (.invokevirtual idx, 3)) (hM : CT E y bytes maxL ret2 d2 (.ref (eA E k) :: As) S (some (.ref v)) S2) (kk : J E X Q S2 (pc + 3) lv (.ref v :: st)) : J E X Q S pc lv st0 := by
  rw [← e0]
  exact j_callV hF hm hk hs hcl wl hn hdd hst hd hM kk
theorem j_callS_r {E : En} {X : Cx} {Q : State → Prop} {S : Mem} {cc : ByteArray} {own : String} {nL d pc : Nat} {ret : Option FieldType} {lv : List (Nat × Value)} {st : List Value} (hF : Fx E X cc own nL ret d) {y : MethodName} {bytes : ByteArray} {maxL d2 idx n : Nat} {ret2 : Option FieldType} {As st0 : List Value} {v : Nat} {S2 : Mem} (e0 : As.reverse ++ st = st0) (hm : MS y bytes maxL ret2 n) (wl : Cond.methodLink own idx y ∈ BIG) (hn : As.length = n) (hdd : d2 + 1 ≤ d) (hst : (st.map fun v => v.category).sum ≤ 8) (hd : decode cc pc = .ok (.invokestatic idx, 3)) (hM : CT E y bytes maxL ret2 d2 As S (some (.ref v)) S2) (kk : J E X Q S2 (pc + 3) lv (.ref v :: st)) : J E X Q S pc lv st0 := by
  rw [← e0]
  exact j_callS hF hm wl hn hdd hst hd hM kk
theorem j_callN_i {E : En} {X : Cx} {Q : State → Prop} {S : Mem} {cc : ByteArray} {own : String} {nL d pc : Nat} {ret : Option FieldType} {lv : List (Nat × Value)} {st : List Value} (hF : Fx E X cc own nL ret d) {bytes : ByteArray} {maxL d2 n : Nat} {ret2 : Option FieldType} {As st0 : List Value} {v : Int32} {S2 : Mem} (e0 : As.reverse ++ st = st0) (hown4 : own = RX4) (hm : MS yX9_isBetween bytes maxL ret2 n) (hn : As.length = n) (hdd : d2 + 1 ≤ d) (hst : (st.map fun v => v.category).sum ≤ 8) (hd : decode cc pc = .ok (.invokestatic 66, 3)) (hM : CT E yX9_isBetween bytes maxL ret2 d2 As S (some (.int v)) S2) (kk : J E X Q S2 (pc + 3) lv (.int v :: st)) : J E X Q S pc lv st0 := by
  rw [← e0]
  exact j_callSN hF hown4 hm hn hdd hst hd hM kk
theorem j_callT_i {E : En} {X : Cx} {Q : State → Prop} {S : Mem} {cc : ByteArray} {own : String} {nL d pc : Nat} {ret : Option FieldType} {lv : List (Nat × Value)} {st : List Value} (hF : Fx E X cc own nL ret d) {y : MethodName} {bytes : ByteArray} {maxL d2 idx n w : Nat} {ret2 : Option FieldType} {As st0 : List Value} {v : Int32} {S2 : Mem} (e0 : As.reverse ++ .ref (eK E w) :: st = st0) (hw : w < 3) (hm : MV y bytes maxL ret2 "java/lang/String" n) (wl : Cond.methodLink own idx y ∈ BIG) (hn : As.length = n) (hdd : d2 + 1 ≤ d) (hst : (st.map fun v => v.category).sum ≤ 8) (hd : decode cc pc = .ok (.invokevirtual idx, 3)) (hM : CT E y bytes maxL ret2 d2 (.ref (eK E w) :: As) S (some (.int v)) S2) (kk : J E X Q S2 (pc + 3) lv (.int v :: st)) : J E X Q S pc lv st0 := by
  rw [← e0]
  rcases X with ⟨p, l, e, R, s, m, args, below, meth, c, n0, A, cells, slots⟩
  obtain ⟨hx, hb, hml, hn0, hown, hts, hK, hStr, hLit, hr, hlocks, hl0, hd1, hd2, hd3, hd4⟩ := hF
  intro H locs ls hP hD hS hl
  obtain ⟨⟨hyC, hmx⟩, hy, wc, wini, wi, wse⟩ := hm
  subst hl0
  subst hn0
  refine call_end (S := S) (S' := S2) (ov := some (.int v)) (rest := st) (va_runV (As := As) (rest := st) (n := n) (C := "java/lang/String") ⟨hx, hb, hml, hown, hts⟩ hM ⟨callB_of n hts (goodBIG0 wc) rfl rfl rfl (by rw [hyC]; exact hts _ wini) (hts _ wl) hy ⟨by show d2 + 1 ≤ _; omega, by show 8 + (maxL + 11) + 32 * d2 ≤ _; omega⟩, hts _ wi, hts _ wse⟩ ⟨Hd_blind, vk_recv hStr.2.1 hw hS, (fun U hU hW => ⟨rfl, by rw [hU]; exact hP, va_K.moved hW.alike hK, world_D E S S hD (fun _ h => h), by rw [hU]; exact ((hStr.kept hS.2.1).moved hW.alike).narrow (world_in E S hD), hLit.warm hW⟩)⟩ rfl hn hl.1 rfl (by show 2 * 0 + _ ≤ 8; omega) hd ⟨hd3, hd4⟩) hD hS hl kk
theorem j_ldcS0 {E : En} {X : Cx} {Q : State → Prop} {S : Mem} {cc : ByteArray} {own : String} {nL d pc : Nat} {ret : Option FieldType} {lv : List (Nat × Value)} {st : List Value} (hF : Fx E X cc own nL ret d) (hown4 : own = RX4) (hd : decode cc pc = .ok (.ldc 106, 2)) (kk : J E X Q S (pc + 2) lv (.ref (eK E 0) :: st)) : J E X Q S pc lv st := by
  subst hown4
  rcases X with ⟨p, l, e, R, s, m, args, below, meth, c, n0, A, cells, slots⟩
  obtain ⟨hx, hb, hml, hn0, hown, hts, hK, hStr, hLit, hr, hlocks, hl0, hd1, hd2, hd3, hd4⟩ := hF
  intro H locs ls hP hD hS hl
  exact va_ldcS hx hb hown hLit.1 hd (kk H locs ls hP hD hS hl)
theorem j_ldcS1 {E : En} {X : Cx} {Q : State → Prop} {S : Mem} {cc : ByteArray} {own : String} {nL d pc : Nat} {ret : Option FieldType} {lv : List (Nat × Value)} {st : List Value} (hF : Fx E X cc own nL ret d) (hown4 : own = RX4) (hd : decode cc pc = .ok (.ldc 112, 2)) (kk : J E X Q S (pc + 2) lv (.ref (eK E 1) :: st)) : J E X Q S pc lv st := by
  subst hown4
  rcases X with ⟨p, l, e, R, s, m, args, below, meth, c, n0, A, cells, slots⟩
  obtain ⟨hx, hb, hml, hn0, hown, hts, hK, hStr, hLit, hr, hlocks, hl0, hd1, hd2, hd3, hd4⟩ := hF
  intro H locs ls hP hD hS hl
  exact va_ldcS hx hb hown hLit.2.1 hd (kk H locs ls hP hD hS hl)
theorem j_ldcS2 {E : En} {X : Cx} {Q : State → Prop} {S : Mem} {cc : ByteArray} {own : String} {nL d pc : Nat} {ret : Option FieldType} {lv : List (Nat × Value)} {st : List Value} (hF : Fx E X cc own nL ret d) (hown4 : own = RX4) (hd : decode cc pc = .ok (.ldc 114, 2)) (kk : J E X Q S (pc + 2) lv (.ref (eK E 2) :: st)) : J E X Q S pc lv st := by
  subst hown4
  rcases X with ⟨p, l, e, R, s, m, args, below, meth, c, n0, A, cells, slots⟩
  obtain ⟨hx, hb, hml, hn0, hown, hts, hK, hStr, hLit, hr, hlocks, hl0, hd1, hd2, hd3, hd4⟩ := hF
  intro H locs ls hP hD hS hl
  exact va_ldcS hx hb hown hLit.2.2.1 hd (kk H locs ls hP hD hS hl)
theorem j_tswIn {E : En} {X : Cx} {Q : State → Prop} {S : Mem} {cc : ByteArray} {own : String} {nL d pc : Nat} {ret : Option FieldType} {lv : List (Nat × Value)} {st : List Value} (hF : Fx E X cc own nL ret d) {dflt lo hi : Int} {offs : Array Int} {len : Nat} {x v : Int32} {off : Int} {tgt : Nat} (e : x = v) (h1 : ¬ v.toInt < lo) (h2 : ¬ hi < v.toInt) (ho : offs[(v.toInt - lo).toNat]? = some off) (ht : (pc : Int) + off = (tgt : Int)) (hd : decode cc pc = .ok (.tableswitch dflt lo hi offs, len)) (kk : J E X Q S tgt lv st) : J E X Q S pc lv (.int x :: st) := by
  subst e
  rcases X with ⟨p, l, e, R, s, m, args, below, meth, c, n0, A, cells, slots⟩
  obtain ⟨hx, hb, hml, hn0, hown, hts, hK, hStr, hLit, hr, hlocks, hl0, hd1, hd2, hd3, hd4⟩ := hF
  intro H locs ls hP hD hS hl
  exact lv_tableIn hx hb hd h1 h2 ho ht (kk H locs ls hP hD hS hl)
theorem j_tswOut {E : En} {X : Cx} {Q : State → Prop} {S : Mem} {cc : ByteArray} {own : String} {nL d pc : Nat} {ret : Option FieldType} {lv : List (Nat × Value)} {st : List Value} (hF : Fx E X cc own nL ret d) {dflt lo hi : Int} {offs : Array Int} {len : Nat} {x : Int32} {tgt : Nat} (h : x.toInt < lo ∨ hi < x.toInt) (ht : (pc : Int) + dflt = (tgt : Int)) (hd : decode cc pc = .ok (.tableswitch dflt lo hi offs, len)) (kk : J E X Q S tgt lv st) : J E X Q S pc lv (.int x :: st) := by
  rcases X with ⟨p, l, e, R, s, m, args, below, meth, c, n0, A, cells, slots⟩
  obtain ⟨hx, hb, hml, hn0, hown, hts, hK, hStr, hLit, hr, hlocks, hl0, hd1, hd2, hd3, hd4⟩ := hF
  intro H locs ls hP hD hS hl
  exact lv_tableOut hx hb hd h ht (kk H locs ls hP hD hS hl)
theorem j_lswIn {E : En} {X : Cx} {Q : State → Prop} {S : Mem} {cc : ByteArray} {own : String} {nL d pc : Nat} {ret : Option FieldType} {lv : List (Nat × Value)} {st : List Value} (hF : Fx E X cc own nL ret d) {dflt : Int} {ps : Array (Int × Int)} {len : Nat} {x v : Int32} {off : Int} {tgt : Nat} (e : x = v) (hp : (ps.toList.zip (ps.toList.drop 1)).all (fun (a, next) => a.1 < next.1) = true) (ho : Op.lookupswitch.offset ps.toList dflt v.toInt = off) (ht : (pc : Int) + off = (tgt : Int)) (hd : decode cc pc = .ok (.lookupswitch dflt ps, len)) (kk : J E X Q S tgt lv st) : J E X Q S pc lv (.int x :: st) := by
  subst e
  rcases X with ⟨p, l, e, R, s, m, args, below, meth, c, n0, A, cells, slots⟩
  obtain ⟨hx, hb, hml, hn0, hown, hts, hK, hStr, hLit, hr, hlocks, hl0, hd1, hd2, hd3, hd4⟩ := hF
  intro H locs ls hP hD hS hl
  exact lv_lookup hx hb hd hp ho ht (kk H locs ls hP hD hS hl)
theorem j_lswIn2 {E : En} {X : Cx} {Q : State → Prop} {S : Mem} {cc : ByteArray} {own : String} {nL d pc : Nat} {ret : Option FieldType} {lv : List (Nat × Value)} {st : List Value} (hF : Fx E X cc own nL ret d) {dflt : Int} {ps : Array (Int × Int)} {len : Nat} {x : Int32} {off : Int} {tgt : Nat} (hp : (ps.toList.zip (ps.toList.drop 1)).all (fun (a, next) => a.1 < next.1) = true) (ho : Op.lookupswitch.offset ps.toList dflt x.toInt = off) (ht : (pc : Int) + off = (tgt : Int)) (hd : decode cc pc = .ok (.lookupswitch dflt ps, len)) (kk : J E X Q S tgt lv st) : J E X Q S pc lv (.int x :: st) := by
  rcases X with ⟨p, l, e, R, s, m, args, below, meth, c, n0, A, cells, slots⟩
  obtain ⟨hx, hb, hml, hn0, hown, hts, hK, hStr, hLit, hr, hlocks, hl0, hd1, hd2, hd3, hd4⟩ := hF
  intro H locs ls hP hD hS hl
  exact lv_lookup hx hb hd hp ho ht (kk H locs ls hP hD hS hl)
