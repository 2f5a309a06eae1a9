/-! CONSTRUCTORS: worlds as lists, that grow -/
def JC (E : En) (X : Cx) (Q : State → Prop) (ws : va_W) (cn sn : Nat) (pc : Nat) (lv : List (Nat × Value)) (st : List Value) : Prop := match X with
  | (p, l, e, R, s, m, args, below, meth, c, nL, A, _, _) => ∀ (H : Heap) (locs : List Loc) (ls : Array Slot), va_P E.2.1 classes ws H → va_D A ws → va_S A s.heap H locs → lv_has ls nL lv → W p l e R s m args below meth c H locs cn sn Q (F0 m pc ls st)
def Fc (E : En) (X : Cx) (cc : ByteArray) (own : String) (nL d mc ms : Nat) : Prop := match X with
  | (p, l, e, R, s, m, args, below, meth, c, n0, A, _, _) => p.tables.exec = Jvm.exec ∧ c.code = cc ∧ c.maxLocals = nL ∧ n0 = nL ∧ s.vm.findClass own = some m.cls ∧ (∀ w ∈ BIG, w.before args s = true) ∧ va_K E.2.1 classes (en_ty E) s ∧ meth.locks = false ∧ l = E.1 ∧ d ≤ R.frames ∧ 32 * d ≤ R.locals ∧ mc ≤ R.cells ∧ ms ≤ R.slots ∧ (∀ q, s.heap.size ≤ q → A q)
def Fi (X : Cx) : Prop := match X with
  | (p, l, e, R, s, m, args, below, meth, c, n0, A, _, _) => meth.name = "<init>" ∧ meth.sig.returnType = none
def CQ (E : En) (ws0 : va_W) (sz : Nat) (Post : va_W → Prop) : Array Value → State → Outcome → State → Prop := fun _ st oc t => oc = .returned none ∧ (∃ ws1, Post ws1 ∧ va_P E.2.1 classes ws1 t.heap ∧ va_D (va_A ws0 sz) ws1) ∧ va_F (va_A ws0 sz) st t
def CC (E : En) (y : MethodName) (cc : ByteArray) (nL d mc ms : Nat) (args : List Value) (ws0 : va_W) (Post : va_W → Prop) : Prop :=
  ∀ sz : Nat, Met E.1 y (Cond.code y cc nL none :: BIG) { frames := d, cells := mc, slots := ms, locals := 32 * d } (va_Pc args (fun U => U.heap.size = sz ∧ va_P E.2.1 classes ws0 U.heap ∧ va_K E.2.1 classes (en_ty E) U ∧ va_D (fun _ => True) ws0)) (CQ E ws0 sz Post) mc ms (va_A ws0 sz)
def CR (E : En) (X : Cx) (ws0 : va_W) (Post : va_W → Prop) (mc ms : Nat) : State → Prop := match X with
  | (p, l, e, R, s, m, args, below, meth, c, nL, A, _, _) => MQ below (CQ E ws0 s.heap.size Post) args s mc ms (va_A ws0 s.heap.size)
set_option maxHeartbeats 1000000 in
theorem CC_of {E : En} {y : MethodName} {cc : ByteArray} {nL d mc ms : Nat} {args : List Value} {ws0 : va_W} {Post : va_W → Prop} (hy : plainName y.cls = true) (hin : y.name = "<init>") (hlen : (lg_sl args).length ≤ nL)
    (body : ∀ X : Cx, Fc E X cc y.cls nL d mc ms → Fi X → (∃ z, X.2.2.2.2.2.2.2.2.2.2.2.1 = va_A ws0 z ∧ X.2.2.2.2.1.heap.size = z) → JC E X (CR E X ws0 Post mc ms) ws0 0 0 0 (lv_args 0 args) []) : CC E y cc nL d mc ms args ws0 Post := by
  intro sz
  refine Met.ofW (cc := cc) (maxL := nL) (ret := none) hy rfl ?_
  intro p e s m args0 below meth c s₁ B hml hv
  obtain ⟨rfl, hsz, hP, hK, hD⟩ := hv
  subst hsz
  have hts := atoms_spec (ws := Cond.code y cc nL none :: BIG) B.pre
  have hown : s.vm.findClass y.cls = some m.cls := findClass_of_methodNamed B.named
  have hnm : meth.name = "<init>" := (name_of_methodNamed B.named B.method).1.trans hin
  have hl := lv_entry args (n := nL) hlen
  rw [lg_entry_eq]
  generalize (lg_sl args ++ List.replicate (nL - (lg_sl args).length) Slot.unset).toArray = ls at hl ⊢
  exact body (p, E.1, e, { frames := d, cells := mc, slots := ms, locals := 32 * d }, s, m, args.toArray, below, meth, c, nL, va_A ws0 s.heap.size, 0, 0) ⟨B.exec, B.bytes, hml, rfl, hown, fun w hw => hts w (List.mem_cons_of_mem _ hw), hK, B.notSynchronized, rfl, Nat.le_refl _, Nat.le_refl _, Nat.le_refl _, Nat.le_refl _, fun q h => Or.inr h⟩ ⟨hnm, B.returns⟩ ⟨_, rfl, rfl⟩ s.heap [] ls hP (hD.self (sz := s.heap.size)) va_S.rf hl
theorem map_some_filterMap {is : List Nat} {ws wc : va_W} (h : is.map (fun i => ws[i]?) = wc.map some) : is.filterMap (fun i => ws[i]?) = wc := by
  induction is generalizing wc with
  | nil =>
    cases wc with
    | nil => rfl
    | cons a t => cases h
  | cons i t ih =>
    cases wc with
    | nil => cases h
    | cons a u =>
      simp only [List.map_cons, List.cons.injEq] at h
      rw [List.filterMap_cons, h.1]
      simp [ih h.2]
theorem jc_iconst {E : En} {X : Cx} {Q : State → Prop} {ws : va_W} {cn sn : Nat} {cc : ByteArray} {own : String} {nL d mc ms pc : Nat} {lv : List (Nat × Value)} {st : List Value} (hF : Fc E X cc own nL d mc ms) {n : Int} {v : Int32} (hv : Int32.ofInt n = v) (hd : decode cc pc = .ok (.iconst n, 1)) (k : JC E X Q ws cn sn (pc + 1) lv (.int v :: st)) : JC E X Q ws cn sn pc lv (st) := by
  rcases X with ⟨p, l, e, R, s, m, args, below, meth, c, n0, A, z1, z2⟩
  obtain ⟨hx, hb, hml, hn0, hown, hts, hK, hlocks, hl0, hd1, hd2, hd3, hd4, hA⟩ := hF
  intro H locs ls hP hD hS hl
  exact lv_iconst hx hb hd hv (k H locs ls hP hD hS hl)
theorem jc_bipush {E : En} {X : Cx} {Q : State → Prop} {ws : va_W} {cn sn : Nat} {cc : ByteArray} {own : String} {nL d mc ms pc : Nat} {lv : List (Nat × Value)} {st : List Value} (hF : Fc E X cc own nL d mc ms) {n : Int} {v : Int32} (hv : (Int8.ofInt n).toInt32 = v) (hd : decode cc pc = .ok (.bipush n, 2)) (k : JC E X Q ws cn sn (pc + 2) lv (.int v :: st)) : JC E X Q ws cn sn pc lv (st) := by
  rcases X with ⟨p, l, e, R, s, m, args, below, meth, c, n0, A, z1, z2⟩
  obtain ⟨hx, hb, hml, hn0, hown, hts, hK, hlocks, hl0, hd1, hd2, hd3, hd4, hA⟩ := hF
  intro H locs ls hP hD hS hl
  exact lv_bipush hx hb hd hv (k H locs ls hP hD hS hl)
theorem jc_sipush {E : En} {X : Cx} {Q : State → Prop} {ws : va_W} {cn sn : Nat} {cc : ByteArray} {own : String} {nL d mc ms pc : Nat} {lv : List (Nat × Value)} {st : List Value} (hF : Fc E X cc own nL d mc ms) {n : Int} {v : Int32} (hv : (Int16.ofInt n).toInt32 = v) (hd : decode cc pc = .ok (.sipush n, 3)) (k : JC E X Q ws cn sn (pc + 3) lv (.int v :: st)) : JC E X Q ws cn sn pc lv (st) := by
  rcases X with ⟨p, l, e, R, s, m, args, below, meth, c, n0, A, z1, z2⟩
  obtain ⟨hx, hb, hml, hn0, hown, hts, hK, hlocks, hl0, hd1, hd2, hd3, hd4, hA⟩ := hF
  intro H locs ls hP hD hS hl
  exact lv_sipush hx hb hd hv (k H locs ls hP hD hS hl)
theorem jc_dup {E : En} {X : Cx} {Q : State → Prop} {ws : va_W} {cn sn : Nat} {cc : ByteArray} {own : String} {nL d mc ms pc : Nat} {lv : List (Nat × Value)} {st : List Value} (hF : Fc E X cc own nL d mc ms) {v : Value} (hc : v.category = 1) (hd : decode cc pc = .ok (.dup, 1)) (k : JC E X Q ws cn sn (pc + 1) lv (v :: v :: st)) : JC E X Q ws cn sn pc lv (v :: st) := by
  rcases X with ⟨p, l, e, R, s, m, args, below, meth, c, n0, A, z1, z2⟩
  obtain ⟨hx, hb, hml, hn0, hown, hts, hK, hlocks, hl0, hd1, hd2, hd3, hd4, hA⟩ := hF
  intro H locs ls hP hD hS hl
  exact lv_dup hx hb hd hc (k H locs ls hP hD hS hl)
theorem jc_iload_n {E : En} {X : Cx} {Q : State → Prop} {ws : va_W} {cn sn : Nat} {cc : ByteArray} {own : String} {nL d mc ms pc : Nat} {lv : List (Nat × Value)} {st : List Value} (hF : Fc E X cc own nL d mc ms) {n : Fin 4} {i : Nat} {x : Int32} (hi : (n : Nat) = i) (q : Nat) (hk : lv[q]? = some (i, .int x)) (hd : decode cc pc = .ok (.iload_n n, 1)) (k : JC E X Q ws cn sn (pc + 1) lv (.int x :: st)) : JC E X Q ws cn sn pc lv (st) := by
  rcases X with ⟨p, l, e, R, s, m, args, below, meth, c, n0, A, z1, z2⟩
  obtain ⟨hx, hb, hml, hn0, hown, hts, hK, hlocks, hl0, hd1, hd2, hd3, hd4, hA⟩ := hF
  intro H locs ls hP hD hS hl
  exact lv_iload_n hx hb hd hi (lv_at hl q hk) (k H locs ls hP hD hS hl)
theorem jc_aload_n {E : En} {X : Cx} {Q : State → Prop} {ws : va_W} {cn sn : Nat} {cc : ByteArray} {own : String} {nL d mc ms pc : Nat} {lv : List (Nat × Value)} {st : List Value} (hF : Fc E X cc own nL d mc ms) {n : Fin 4} {i : Nat} {x : Nat} (hi : (n : Nat) = i) (q : Nat) (hk : lv[q]? = some (i, .ref x)) (hd : decode cc pc = .ok (.aload_n n, 1)) (k : JC E X Q ws cn sn (pc + 1) lv (.ref x :: st)) : JC E X Q ws cn sn pc lv (st) := by
  rcases X with ⟨p, l, e, R, s, m, args, below, meth, c, n0, A, z1, z2⟩
  obtain ⟨hx, hb, hml, hn0, hown, hts, hK, hlocks, hl0, hd1, hd2, hd3, hd4, hA⟩ := hF
  intro H locs ls hP hD hS hl
  exact lv_aload_n hx hb hd hi (lv_at hl q hk) (k H locs ls hP hD hS hl)
theorem jc_astore_n {E : En} {X : Cx} {Q : State → Prop} {ws : va_W} {cn sn : Nat} {cc : ByteArray} {own : String} {nL d mc ms pc : Nat} {lv : List (Nat × Value)} {st : List Value} (hF : Fc E X cc own nL d mc ms) {n : Fin 4} {i : Nat} {x : Nat} {lv' : List (Nat × Value)} (hi : (n : Nat) = i) (hn : i < nL) (hlv : (i, Value.ref x) :: lv.filter (fun q => !(q.1 == i) && !(q.1 + 1 == i && q.2.category == 2)) = lv') (hd : decode cc pc = .ok (.astore_n n, 1)) (k : JC E X Q ws cn sn (pc + 1) lv' st) : JC E X Q ws cn sn pc lv (.ref x :: st) := by
  rcases X with ⟨p, l, e, R, s, m, args, below, meth, c, n0, A, z1, z2⟩
  obtain ⟨hx, hb, hml, hn0, hown, hts, hK, hlocks, hl0, hd1, hd2, hd3, hd4, hA⟩ := hF
  intro H locs ls hP hD hS hl
  subst hn0
  exact lv_astore_n hx hb hd hi hl hn hlv (fun ls hl => k H locs ls hP hD hS hl)
theorem jc_if_ge {E : En} {X : Cx} {Q : State → Prop} {ws : va_W} {cn sn : Nat} {cc : ByteArray} {own : String} {nL d mc ms pc : Nat} {lv : List (Nat × Value)} {st : List Value} (hF : Fc E X cc own nL d mc ms) {x : Int32} {off : Int} {tgt : Nat} (hc : 0 ≤ x) (ht : (pc : Int) + off = (tgt : Int)) (hd : decode cc pc = .ok (.ifCond .ge off, 3)) (k : JC E X Q ws cn sn tgt lv st) : JC E X Q ws cn sn pc lv (.int x :: st) := by
  rcases X with ⟨p, l, e, R, s, m, args, below, meth, c, n0, A, z1, z2⟩
  obtain ⟨hx, hb, hml, hn0, hown, hts, hK, hlocks, hl0, hd1, hd2, hd3, hd4, hA⟩ := hF
  intro H locs ls hP hD hS hl
  exact lv_if_ge hx hb hd ht (fun _ => k H locs ls hP hD hS hl) (fun h => absurd hc h)
theorem jc_objInit {E : En} {X : Cx} {Q : State → Prop} {ws : va_W} {cn sn : Nat} {cc : ByteArray} {own : String} {nL d mc ms pc : Nat} {lv : List (Nat × Value)} (hF : Fc E X cc own nL d mc ms) {idx a : Nat} (wl : Cond.methodLink own idx objectInit ∈ BIG) (h1 : 1 ≤ d) (hd : decode cc pc = .ok (.invokespecial idx, 3)) (k : JC E X Q ws cn sn (pc + 3) lv []) : JC E X Q ws cn sn pc lv [.ref a] := by
  rcases X with ⟨p, l, e, R, s, m, args, below, meth, c, n0, A, z1, z2⟩
  obtain ⟨hx, hb, hml, hn0, hown, hts, hK, hlocks, hl0, hd1, hd2, hd3, hd4, hA⟩ := hF
  intro H locs ls hP hD hS hl
  exact W.objInit hx hb hown (hts _ wl) (hts _ bw_1_24) (hts _ bw_1_25) rfl (by rw [hml, ← hn0]; exact hl.1) rfl hd (by omega) (by show 2 * 0 + 0 + 12 ≤ R.locals; omega) (W.eq (g2 := F0 m (pc + 3) ls []) rfl (k H locs ls hP hD hS hl))
theorem jn0 {E : En} {X : Cx} {Q : State → Prop} {ws : va_W} {cn sn : Nat} {cc : ByteArray} {own : String} {nL d mc ms pc : Nat} {lv : List (Nat × Value)} {st : List Value} (hF : Fc E X cc own nL d mc ms) {idx : Nat} (wl : Cond.classLink own idx RX0 ∈ BIG) (hc1 : cn + 1 ≤ mc) (hs1 : sn + 4 ≤ ms) (hd : decode cc pc = .ok (.new idx, 3)) (k : ∀ q : Nat, JC E X Q (ws ++ [(q, .inr (0, [.null, .null, .null, .int 0]))]) (cn + 1) (sn + 4) (pc + 3) lv (.ref q :: st)) : JC E X Q ws cn sn pc lv st := by
  rcases X with ⟨p, l, e, R, s, m, args, below, meth, c, n0, A, z1, z2⟩
  obtain ⟨hx, hb, hml, hn0, hown, hts, hK, hlocks, hl0, hd1, hd2, hd3, hd4, hA⟩ := hF
  intro H locs ls hP hD hS hl
  exact va_new (ci := 0) (fs := [.null, .null, .null, .int 0]) (C := RX0) (T := TX0) (N := 4) hx hb hts inX0 tyX0 tyX0_ok hown (hts _ wl) (hts _ bw_1_108) (hts _ bw_1_6) hK hP hD hS hA rfl (fun j hj => by rcases (show j = 0 ∨ j = 1 ∨ j = 2 ∨ j = 3 by omega) with rfl | rfl | rfl | rfl <;> rfl) (by omega) (by omega) hd (fun q H1 hP hD hS => k q H1 locs ls hP hD hS hl)
theorem jpF0_0 {E : En} {X : Cx} {Q : State → Prop} {ws : va_W} {cn sn : Nat} {cc : ByteArray} {own : String} {nL d mc ms pc : Nat} {lv : List (Nat × Value)} {st : List Value} (hF : Fc E X cc own nL d mc ms) {q0 a idx x : Nat} {fs : List Value} {ws2 : va_W} (hi : Fi X) (ho : own = RX0) (he : ws[q0]? = some (a, .inr (0, fs))) (hl0 : 0 < fs.length) (hw2 : ws.set q0 (a, .inr (0, fs.set 0 (.ref x))) = ws2) (hw : Cond.fieldLink own idx "SelfScale$Book" "sets" "LSelfScale$Row;" ∈ BIG) (hd : decode cc pc = .ok (.putfield idx, 3)) (k : JC E X Q ws2 cn sn (pc + 3) lv st) : JC E X Q ws cn sn pc lv (.ref x :: .ref a :: st) := by
  subst ho
  rcases X with ⟨p, l, e, R, s, m, args, below, meth, c, n0, A, z1, z2⟩
  obtain ⟨hx, hb, hml, hn0, hown, hts, hK, hlocks, hl9, hd1, hd2, hd3, hd4, hA⟩ := hF
  intro H locs ls hP hD hS hl
  subst hw2
  exact va_putF (v := .ref x) (ty := .object "SelfScale$Row") (C := RX0) (T := TX0) (N := 4) hx hb hts inX0 tyX0 tyX0_ok nmX0 hown hK hP hD hS q0 he rfl 0 (by decide) (hts _ hw) (fun _ h => h) rfl hi.1 rfl (by decide +kernel) rfl rfl hl0 hd (fun H1 locs1 hP hD hS => k H1 locs1 ls hP hD hS hl)
theorem jg0_0 {E : En} {X : Cx} {Q : State → Prop} {ws : va_W} {cn sn : Nat} {cc : ByteArray} {own : String} {nL d mc ms pc : Nat} {lv : List (Nat × Value)} {st : List Value} (hF : Fc E X cc own nL d mc ms) {q0 a idx x : Nat} {fs : List Value} (he : ws[q0]? = some (a, .inr (0, fs))) (hv : fs[0]? = some (.ref x)) (hw : Cond.fieldLink own idx "SelfScale$Book" "sets" "LSelfScale$Row;" ∈ BIG) (hd : decode cc pc = .ok (.getfield idx, 3)) (k : JC E X Q ws cn sn (pc + 3) lv (.ref x :: st)) : JC E X Q ws cn sn pc lv (.ref a :: st) := by
  rcases X with ⟨p, l, e, R, s, m, args, below, meth, c, n0, A, z1, z2⟩
  obtain ⟨hx, hb, hml, hn0, hown, hts, hK, hlocks, hl0, hd1, hd2, hd3, hd4, hA⟩ := hF
  intro H locs ls hP hD hS hl
  exact va_get (C := RX0) (T := TX0) (N := 4) hx hb hts inX0 hown hK hP q0 he rfl 0 (by decide) (hts _ hw) (fun _ h => h) hv hd (k H locs ls hP hD hS hl)
theorem jpF0_1 {E : En} {X : Cx} {Q : State → Prop} {ws : va_W} {cn sn : Nat} {cc : ByteArray} {own : String} {nL d mc ms pc : Nat} {lv : List (Nat × Value)} {st : List Value} (hF : Fc E X cc own nL d mc ms) {q0 a idx x : Nat} {fs : List Value} {ws2 : va_W} (hi : Fi X) (ho : own = RX0) (he : ws[q0]? = some (a, .inr (0, fs))) (hl0 : 1 < fs.length) (hw2 : ws.set q0 (a, .inr (0, fs.set 1 (.ref x))) = ws2) (hw : Cond.fieldLink own idx "SelfScale$Book" "shown" "LSelfScale$Row;" ∈ BIG) (hd : decode cc pc = .ok (.putfield idx, 3)) (k : JC E X Q ws2 cn sn (pc + 3) lv st) : JC E X Q ws cn sn pc lv (.ref x :: .ref a :: st) := by
  subst ho
  rcases X with ⟨p, l, e, R, s, m, args, below, meth, c, n0, A, z1, z2⟩
  obtain ⟨hx, hb, hml, hn0, hown, hts, hK, hlocks, hl9, hd1, hd2, hd3, hd4, hA⟩ := hF
  intro H locs ls hP hD hS hl
  subst hw2
  exact va_putF (v := .ref x) (ty := .object "SelfScale$Row") (C := RX0) (T := TX0) (N := 4) hx hb hts inX0 tyX0 tyX0_ok nmX0 hown hK hP hD hS q0 he rfl 1 (by decide) (hts _ hw) (fun _ h => h) rfl hi.1 rfl (by decide +kernel) rfl rfl hl0 hd (fun H1 locs1 hP hD hS => k H1 locs1 ls hP hD hS hl)
theorem jg0_1 {E : En} {X : Cx} {Q : State → Prop} {ws : va_W} {cn sn : Nat} {cc : ByteArray} {own : String} {nL d mc ms pc : Nat} {lv : List (Nat × Value)} {st : List Value} (hF : Fc E X cc own nL d mc ms) {q0 a idx x : Nat} {fs : List Value} (he : ws[q0]? = some (a, .inr (0, fs))) (hv : fs[1]? = some (.ref x)) (hw : Cond.fieldLink own idx "SelfScale$Book" "shown" "LSelfScale$Row;" ∈ BIG) (hd : decode cc pc = .ok (.getfield idx, 3)) (k : JC E X Q ws cn sn (pc + 3) lv (.ref x :: st)) : JC E X Q ws cn sn pc lv (.ref a :: st) := by
  rcases X with ⟨p, l, e, R, s, m, args, below, meth, c, n0, A, z1, z2⟩
  obtain ⟨hx, hb, hml, hn0, hown, hts, hK, hlocks, hl0, hd1, hd2, hd3, hd4, hA⟩ := hF
  intro H locs ls hP hD hS hl
  exact va_get (C := RX0) (T := TX0) (N := 4) hx hb hts inX0 hown hK hP q0 he rfl 1 (by decide) (hts _ hw) (fun _ h => h) hv hd (k H locs ls hP hD hS hl)
theorem jpF0_2 {E : En} {X : Cx} {Q : State → Prop} {ws : va_W} {cn sn : Nat} {cc : ByteArray} {own : String} {nL d mc ms pc : Nat} {lv : List (Nat × Value)} {st : List Value} (hF : Fc E X cc own nL d mc ms) {q0 a idx x : Nat} {fs : List Value} {ws2 : va_W} (hi : Fi X) (ho : own = RX0) (he : ws[q0]? = some (a, .inr (0, fs))) (hl0 : 2 < fs.length) (hw2 : ws.set q0 (a, .inr (0, fs.set 2 (.ref x))) = ws2) (hw : Cond.fieldLink own idx "SelfScale$Book" "laughs" "LSelfScale$Row;" ∈ BIG) (hd : decode cc pc = .ok (.putfield idx, 3)) (k : JC E X Q ws2 cn sn (pc + 3) lv st) : JC E X Q ws cn sn pc lv (.ref x :: .ref a :: st) := by
  subst ho
  rcases X with ⟨p, l, e, R, s, m, args, below, meth, c, n0, A, z1, z2⟩
  obtain ⟨hx, hb, hml, hn0, hown, hts, hK, hlocks, hl9, hd1, hd2, hd3, hd4, hA⟩ := hF
  intro H locs ls hP hD hS hl
  subst hw2
  exact va_putF (v := .ref x) (ty := .object "SelfScale$Row") (C := RX0) (T := TX0) (N := 4) hx hb hts inX0 tyX0 tyX0_ok nmX0 hown hK hP hD hS q0 he rfl 2 (by decide) (hts _ hw) (fun _ h => h) rfl hi.1 rfl (by decide +kernel) rfl rfl hl0 hd (fun H1 locs1 hP hD hS => k H1 locs1 ls hP hD hS hl)
theorem jg0_2 {E : En} {X : Cx} {Q : State → Prop} {ws : va_W} {cn sn : Nat} {cc : ByteArray} {own : String} {nL d mc ms pc : Nat} {lv : List (Nat × Value)} {st : List Value} (hF : Fc E X cc own nL d mc ms) {q0 a idx x : Nat} {fs : List Value} (he : ws[q0]? = some (a, .inr (0, fs))) (hv : fs[2]? = some (.ref x)) (hw : Cond.fieldLink own idx "SelfScale$Book" "laughs" "LSelfScale$Row;" ∈ BIG) (hd : decode cc pc = .ok (.getfield idx, 3)) (k : JC E X Q ws cn sn (pc + 3) lv (.ref x :: st)) : JC E X Q ws cn sn pc lv (.ref a :: st) := by
  rcases X with ⟨p, l, e, R, s, m, args, below, meth, c, n0, A, z1, z2⟩
  obtain ⟨hx, hb, hml, hn0, hown, hts, hK, hlocks, hl0, hd1, hd2, hd3, hd4, hA⟩ := hF
  intro H locs ls hP hD hS hl
  exact va_get (C := RX0) (T := TX0) (N := 4) hx hb hts inX0 hown hK hP q0 he rfl 2 (by decide) (hts _ hw) (fun _ h => h) hv hd (k H locs ls hP hD hS hl)
theorem jn1 {E : En} {X : Cx} {Q : State → Prop} {ws : va_W} {cn sn : Nat} {cc : ByteArray} {own : String} {nL d mc ms pc : Nat} {lv : List (Nat × Value)} {st : List Value} (hF : Fc E X cc own nL d mc ms) {idx : Nat} (wl : Cond.classLink own idx RX1 ∈ BIG) (hc1 : cn + 1 ≤ mc) (hs1 : sn + 2 ≤ ms) (hd : decode cc pc = .ok (.new idx, 3)) (k : ∀ q : Nat, JC E X Q (ws ++ [(q, .inr (1, [.null, .int 0]))]) (cn + 1) (sn + 2) (pc + 3) lv (.ref q :: st)) : JC E X Q ws cn sn pc lv st := by
  rcases X with ⟨p, l, e, R, s, m, args, below, meth, c, n0, A, z1, z2⟩
  obtain ⟨hx, hb, hml, hn0, hown, hts, hK, hlocks, hl0, hd1, hd2, hd3, hd4, hA⟩ := hF
  intro H locs ls hP hD hS hl
  exact va_new (ci := 1) (fs := [.null, .int 0]) (C := RX1) (T := TX1) (N := 2) hx hb hts inX1 tyX1 tyX1_ok hown (hts _ wl) (hts _ bw_1_129) (hts _ bw_1_7) hK hP hD hS hA rfl (fun j hj => by rcases (show j = 0 ∨ j = 1 by omega) with rfl | rfl <;> rfl) (by omega) (by omega) hd (fun q H1 hP hD hS => k q H1 locs ls hP hD hS hl)
theorem jpF1_0 {E : En} {X : Cx} {Q : State → Prop} {ws : va_W} {cn sn : Nat} {cc : ByteArray} {own : String} {nL d mc ms pc : Nat} {lv : List (Nat × Value)} {st : List Value} (hF : Fc E X cc own nL d mc ms) {q0 a idx x : Nat} {fs : List Value} {ws2 : va_W} (hi : Fi X) (ho : own = RX1) (he : ws[q0]? = some (a, .inr (1, fs))) (hl0 : 0 < fs.length) (hw2 : ws.set q0 (a, .inr (1, fs.set 0 (.ref x))) = ws2) (hw : Cond.fieldLink own idx "SelfScale$Image" "kept" "LSelfScale$Book;" ∈ BIG) (hd : decode cc pc = .ok (.putfield idx, 3)) (k : JC E X Q ws2 cn sn (pc + 3) lv st) : JC E X Q ws cn sn pc lv (.ref x :: .ref a :: st) := by
  subst ho
  rcases X with ⟨p, l, e, R, s, m, args, below, meth, c, n0, A, z1, z2⟩
  obtain ⟨hx, hb, hml, hn0, hown, hts, hK, hlocks, hl9, hd1, hd2, hd3, hd4, hA⟩ := hF
  intro H locs ls hP hD hS hl
  subst hw2
  exact va_putF (v := .ref x) (ty := .object "SelfScale$Book") (C := RX1) (T := TX1) (N := 2) hx hb hts inX1 tyX1 tyX1_ok nmX1 hown hK hP hD hS q0 he rfl 0 (by decide) (hts _ hw) (fun _ h => h) rfl hi.1 rfl (by decide +kernel) rfl rfl hl0 hd (fun H1 locs1 hP hD hS => k H1 locs1 ls hP hD hS hl)
theorem jg1_0 {E : En} {X : Cx} {Q : State → Prop} {ws : va_W} {cn sn : Nat} {cc : ByteArray} {own : String} {nL d mc ms pc : Nat} {lv : List (Nat × Value)} {st : List Value} (hF : Fc E X cc own nL d mc ms) {q0 a idx x : Nat} {fs : List Value} (he : ws[q0]? = some (a, .inr (1, fs))) (hv : fs[0]? = some (.ref x)) (hw : Cond.fieldLink own idx "SelfScale$Image" "kept" "LSelfScale$Book;" ∈ BIG) (hd : decode cc pc = .ok (.getfield idx, 3)) (k : JC E X Q ws cn sn (pc + 3) lv (.ref x :: st)) : JC E X Q ws cn sn pc lv (.ref a :: st) := by
  rcases X with ⟨p, l, e, R, s, m, args, below, meth, c, n0, A, z1, z2⟩
  obtain ⟨hx, hb, hml, hn0, hown, hts, hK, hlocks, hl0, hd1, hd2, hd3, hd4, hA⟩ := hF
  intro H locs ls hP hD hS hl
  exact va_get (C := RX1) (T := TX1) (N := 2) hx hb hts inX1 hown hK hP q0 he rfl 0 (by decide) (hts _ hw) (fun _ h => h) hv hd (k H locs ls hP hD hS hl)
theorem jn2 {E : En} {X : Cx} {Q : State → Prop} {ws : va_W} {cn sn : Nat} {cc : ByteArray} {own : String} {nL d mc ms pc : Nat} {lv : List (Nat × Value)} {st : List Value} (hF : Fc E X cc own nL d mc ms) {idx : Nat} (wl : Cond.classLink own idx RX2 ∈ BIG) (hc1 : cn + 1 ≤ mc) (hs1 : sn + 3 ≤ ms) (hd : decode cc pc = .ok (.new idx, 3)) (k : ∀ q : Nat, JC E X Q (ws ++ [(q, .inr (2, [.null, .null, .long 0]))]) (cn + 1) (sn + 3) (pc + 3) lv (.ref q :: st)) : JC E X Q ws cn sn pc lv st := by
  rcases X with ⟨p, l, e, R, s, m, args, below, meth, c, n0, A, z1, z2⟩
  obtain ⟨hx, hb, hml, hn0, hown, hts, hK, hlocks, hl0, hd1, hd2, hd3, hd4, hA⟩ := hF
  intro H locs ls hP hD hS hl
  exact va_new (ci := 2) (fs := [.null, .null, .long 0]) (C := RX2) (T := TX2) (N := 3) hx hb hts inX2 tyX2 tyX2_ok hown (hts _ wl) (hts _ bw_1_144) (hts _ bw_1_8) hK hP hD hS hA rfl (fun j hj => by rcases (show j = 0 ∨ j = 1 ∨ j = 2 by omega) with rfl | rfl | rfl <;> rfl) (by omega) (by omega) hd (fun q H1 hP hD hS => k q H1 locs ls hP hD hS hl)
theorem jpF2_0 {E : En} {X : Cx} {Q : State → Prop} {ws : va_W} {cn sn : Nat} {cc : ByteArray} {own : String} {nL d mc ms pc : Nat} {lv : List (Nat × Value)} {st : List Value} (hF : Fc E X cc own nL d mc ms) {q0 a idx x : Nat} {fs : List Value} {ws2 : va_W} (hi : Fi X) (ho : own = RX2) (he : ws[q0]? = some (a, .inr (2, fs))) (hl0 : 0 < fs.length) (hw2 : ws.set q0 (a, .inr (2, fs.set 0 (.ref x))) = ws2) (hw : Cond.fieldLink own idx "SelfScale$Kinds" "scale" "LSelfScale$Scale;" ∈ BIG) (hd : decode cc pc = .ok (.putfield idx, 3)) (k : JC E X Q ws2 cn sn (pc + 3) lv st) : JC E X Q ws cn sn pc lv (.ref x :: .ref a :: st) := by
  subst ho
  rcases X with ⟨p, l, e, R, s, m, args, below, meth, c, n0, A, z1, z2⟩
  obtain ⟨hx, hb, hml, hn0, hown, hts, hK, hlocks, hl9, hd1, hd2, hd3, hd4, hA⟩ := hF
  intro H locs ls hP hD hS hl
  subst hw2
  exact va_putF (v := .ref x) (ty := .object "SelfScale$Scale") (C := RX2) (T := TX2) (N := 3) hx hb hts inX2 tyX2 tyX2_ok nmX2 hown hK hP hD hS q0 he rfl 0 (by decide) (hts _ hw) (fun _ h => h) rfl hi.1 rfl (by decide +kernel) rfl rfl hl0 hd (fun H1 locs1 hP hD hS => k H1 locs1 ls hP hD hS hl)
theorem jg2_0 {E : En} {X : Cx} {Q : State → Prop} {ws : va_W} {cn sn : Nat} {cc : ByteArray} {own : String} {nL d mc ms pc : Nat} {lv : List (Nat × Value)} {st : List Value} (hF : Fc E X cc own nL d mc ms) {q0 a idx x : Nat} {fs : List Value} (he : ws[q0]? = some (a, .inr (2, fs))) (hv : fs[0]? = some (.ref x)) (hw : Cond.fieldLink own idx "SelfScale$Kinds" "scale" "LSelfScale$Scale;" ∈ BIG) (hd : decode cc pc = .ok (.getfield idx, 3)) (k : JC E X Q ws cn sn (pc + 3) lv (.ref x :: st)) : JC E X Q ws cn sn pc lv (.ref a :: st) := by
  rcases X with ⟨p, l, e, R, s, m, args, below, meth, c, n0, A, z1, z2⟩
  obtain ⟨hx, hb, hml, hn0, hown, hts, hK, hlocks, hl0, hd1, hd2, hd3, hd4, hA⟩ := hF
  intro H locs ls hP hD hS hl
  exact va_get (C := RX2) (T := TX2) (N := 3) hx hb hts inX2 hown hK hP q0 he rfl 0 (by decide) (hts _ hw) (fun _ h => h) hv hd (k H locs ls hP hD hS hl)
theorem jpF2_1 {E : En} {X : Cx} {Q : State → Prop} {ws : va_W} {cn sn : Nat} {cc : ByteArray} {own : String} {nL d mc ms pc : Nat} {lv : List (Nat × Value)} {st : List Value} (hF : Fc E X cc own nL d mc ms) {q0 a idx x : Nat} {fs : List Value} {ws2 : va_W} (hi : Fi X) (ho : own = RX2) (he : ws[q0]? = some (a, .inr (2, fs))) (hl0 : 1 < fs.length) (hw2 : ws.set q0 (a, .inr (2, fs.set 1 (.ref x))) = ws2) (hw : Cond.fieldLink own idx "SelfScale$Kinds" "book" "LSelfScale$Book;" ∈ BIG) (hd : decode cc pc = .ok (.putfield idx, 3)) (k : JC E X Q ws2 cn sn (pc + 3) lv st) : JC E X Q ws cn sn pc lv (.ref x :: .ref a :: st) := by
  subst ho
  rcases X with ⟨p, l, e, R, s, m, args, below, meth, c, n0, A, z1, z2⟩
  obtain ⟨hx, hb, hml, hn0, hown, hts, hK, hlocks, hl9, hd1, hd2, hd3, hd4, hA⟩ := hF
  intro H locs ls hP hD hS hl
  subst hw2
  exact va_putF (v := .ref x) (ty := .object "SelfScale$Book") (C := RX2) (T := TX2) (N := 3) hx hb hts inX2 tyX2 tyX2_ok nmX2 hown hK hP hD hS q0 he rfl 1 (by decide) (hts _ hw) (fun _ h => h) rfl hi.1 rfl (by decide +kernel) rfl rfl hl0 hd (fun H1 locs1 hP hD hS => k H1 locs1 ls hP hD hS hl)
theorem jg2_1 {E : En} {X : Cx} {Q : State → Prop} {ws : va_W} {cn sn : Nat} {cc : ByteArray} {own : String} {nL d mc ms pc : Nat} {lv : List (Nat × Value)} {st : List Value} (hF : Fc E X cc own nL d mc ms) {q0 a idx x : Nat} {fs : List Value} (he : ws[q0]? = some (a, .inr (2, fs))) (hv : fs[1]? = some (.ref x)) (hw : Cond.fieldLink own idx "SelfScale$Kinds" "book" "LSelfScale$Book;" ∈ BIG) (hd : decode cc pc = .ok (.getfield idx, 3)) (k : JC E X Q ws cn sn (pc + 3) lv (.ref x :: st)) : JC E X Q ws cn sn pc lv (.ref a :: st) := by
  rcases X with ⟨p, l, e, R, s, m, args, below, meth, c, n0, A, z1, z2⟩
  obtain ⟨hx, hb, hml, hn0, hown, hts, hK, hlocks, hl0, hd1, hd2, hd3, hd4, hA⟩ := hF
  intro H locs ls hP hD hS hl
  exact va_get (C := RX2) (T := TX2) (N := 3) hx hb hts inX2 hown hK hP q0 he rfl 1 (by decide) (hts _ hw) (fun _ h => h) hv hd (k H locs ls hP hD hS hl)
theorem jn3 {E : En} {X : Cx} {Q : State → Prop} {ws : va_W} {cn sn : Nat} {cc : ByteArray} {own : String} {nL d mc ms pc : Nat} {lv : List (Nat × Value)} {st : List Value} (hF : Fc E X cc own nL d mc ms) {idx : Nat} (wl : Cond.classLink own idx RX3 ∈ BIG) (hc1 : cn + 1 ≤ mc) (hs1 : sn + 5 ≤ ms) (hd : decode cc pc = .ok (.new idx, 3)) (k : ∀ q : Nat, JC E X Q (ws ++ [(q, .inr (3, [.null, .null, .null, .null, .null]))]) (cn + 1) (sn + 5) (pc + 3) lv (.ref q :: st)) : JC E X Q ws cn sn pc lv st := by
  rcases X with ⟨p, l, e, R, s, m, args, below, meth, c, n0, A, z1, z2⟩
  obtain ⟨hx, hb, hml, hn0, hown, hts, hK, hlocks, hl0, hd1, hd2, hd3, hd4, hA⟩ := hF
  intro H locs ls hP hD hS hl
  exact va_new (ci := 3) (fs := [.null, .null, .null, .null, .null]) (C := RX3) (T := TX3) (N := 5) hx hb hts inX3 tyX3 tyX3_ok hown (hts _ wl) (hts _ bw_1_202) (hts _ bw_1_10) hK hP hD hS hA rfl (fun j hj => by rcases (show j = 0 ∨ j = 1 ∨ j = 2 ∨ j = 3 ∨ j = 4 by omega) with rfl | rfl | rfl | rfl | rfl <;> rfl) (by omega) (by omega) hd (fun q H1 hP hD hS => k q H1 locs ls hP hD hS hl)
theorem jpF3_0 {E : En} {X : Cx} {Q : State → Prop} {ws : va_W} {cn sn : Nat} {cc : ByteArray} {own : String} {nL d mc ms pc : Nat} {lv : List (Nat × Value)} {st : List Value} (hF : Fc E X cc own nL d mc ms) {q0 a idx x : Nat} {fs : List Value} {ws2 : va_W} (hi : Fi X) (ho : own = RX3) (he : ws[q0]? = some (a, .inr (3, fs))) (hl0 : 0 < fs.length) (hw2 : ws.set q0 (a, .inr (3, fs.set 0 (.ref x))) = ws2) (hw : Cond.fieldLink own idx "SelfScale$Plan" "scale" "LSelfScale$Scale;" ∈ BIG) (hd : decode cc pc = .ok (.putfield idx, 3)) (k : JC E X Q ws2 cn sn (pc + 3) lv st) : JC E X Q ws cn sn pc lv (.ref x :: .ref a :: st) := by
  subst ho
  rcases X with ⟨p, l, e, R, s, m, args, below, meth, c, n0, A, z1, z2⟩
  obtain ⟨hx, hb, hml, hn0, hown, hts, hK, hlocks, hl9, hd1, hd2, hd3, hd4, hA⟩ := hF
  intro H locs ls hP hD hS hl
  subst hw2
  exact va_putF (v := .ref x) (ty := .object "SelfScale$Scale") (C := RX3) (T := TX3) (N := 5) hx hb hts inX3 tyX3 tyX3_ok nmX3 hown hK hP hD hS q0 he rfl 0 (by decide) (hts _ hw) (fun _ h => h) rfl hi.1 rfl (by decide +kernel) rfl rfl hl0 hd (fun H1 locs1 hP hD hS => k H1 locs1 ls hP hD hS hl)
theorem jg3_0 {E : En} {X : Cx} {Q : State → Prop} {ws : va_W} {cn sn : Nat} {cc : ByteArray} {own : String} {nL d mc ms pc : Nat} {lv : List (Nat × Value)} {st : List Value} (hF : Fc E X cc own nL d mc ms) {q0 a idx x : Nat} {fs : List Value} (he : ws[q0]? = some (a, .inr (3, fs))) (hv : fs[0]? = some (.ref x)) (hw : Cond.fieldLink own idx "SelfScale$Plan" "scale" "LSelfScale$Scale;" ∈ BIG) (hd : decode cc pc = .ok (.getfield idx, 3)) (k : JC E X Q ws cn sn (pc + 3) lv (.ref x :: st)) : JC E X Q ws cn sn pc lv (.ref a :: st) := by
  rcases X with ⟨p, l, e, R, s, m, args, below, meth, c, n0, A, z1, z2⟩
  obtain ⟨hx, hb, hml, hn0, hown, hts, hK, hlocks, hl0, hd1, hd2, hd3, hd4, hA⟩ := hF
  intro H locs ls hP hD hS hl
  exact va_get (C := RX3) (T := TX3) (N := 5) hx hb hts inX3 hown hK hP q0 he rfl 0 (by decide) (hts _ hw) (fun _ h => h) hv hd (k H locs ls hP hD hS hl)
theorem jpF3_1 {E : En} {X : Cx} {Q : State → Prop} {ws : va_W} {cn sn : Nat} {cc : ByteArray} {own : String} {nL d mc ms pc : Nat} {lv : List (Nat × Value)} {st : List Value} (hF : Fc E X cc own nL d mc ms) {q0 a idx x : Nat} {fs : List Value} {ws2 : va_W} (hi : Fi X) (ho : own = RX3) (he : ws[q0]? = some (a, .inr (3, fs))) (hl0 : 1 < fs.length) (hw2 : ws.set q0 (a, .inr (3, fs.set 1 (.ref x))) = ws2) (hw : Cond.fieldLink own idx "SelfScale$Plan" "worlds" "LSelfScale$Worlds;" ∈ BIG) (hd : decode cc pc = .ok (.putfield idx, 3)) (k : JC E X Q ws2 cn sn (pc + 3) lv st) : JC E X Q ws cn sn pc lv (.ref x :: .ref a :: st) := by
  subst ho
  rcases X with ⟨p, l, e, R, s, m, args, below, meth, c, n0, A, z1, z2⟩
  obtain ⟨hx, hb, hml, hn0, hown, hts, hK, hlocks, hl9, hd1, hd2, hd3, hd4, hA⟩ := hF
  intro H locs ls hP hD hS hl
  subst hw2
  exact va_putF (v := .ref x) (ty := .object "SelfScale$Worlds") (C := RX3) (T := TX3) (N := 5) hx hb hts inX3 tyX3 tyX3_ok nmX3 hown hK hP hD hS q0 he rfl 1 (by decide) (hts _ hw) (fun _ h => h) rfl hi.1 rfl (by decide +kernel) rfl rfl hl0 hd (fun H1 locs1 hP hD hS => k H1 locs1 ls hP hD hS hl)
theorem jg3_1 {E : En} {X : Cx} {Q : State → Prop} {ws : va_W} {cn sn : Nat} {cc : ByteArray} {own : String} {nL d mc ms pc : Nat} {lv : List (Nat × Value)} {st : List Value} (hF : Fc E X cc own nL d mc ms) {q0 a idx x : Nat} {fs : List Value} (he : ws[q0]? = some (a, .inr (3, fs))) (hv : fs[1]? = some (.ref x)) (hw : Cond.fieldLink own idx "SelfScale$Plan" "worlds" "LSelfScale$Worlds;" ∈ BIG) (hd : decode cc pc = .ok (.getfield idx, 3)) (k : JC E X Q ws cn sn (pc + 3) lv (.ref x :: st)) : JC E X Q ws cn sn pc lv (.ref a :: st) := by
  rcases X with ⟨p, l, e, R, s, m, args, below, meth, c, n0, A, z1, z2⟩
  obtain ⟨hx, hb, hml, hn0, hown, hts, hK, hlocks, hl0, hd1, hd2, hd3, hd4, hA⟩ := hF
  intro H locs ls hP hD hS hl
  exact va_get (C := RX3) (T := TX3) (N := 5) hx hb hts inX3 hown hK hP q0 he rfl 1 (by decide) (hts _ hw) (fun _ h => h) hv hd (k H locs ls hP hD hS hl)
theorem jpF3_2 {E : En} {X : Cx} {Q : State → Prop} {ws : va_W} {cn sn : Nat} {cc : ByteArray} {own : String} {nL d mc ms pc : Nat} {lv : List (Nat × Value)} {st : List Value} (hF : Fc E X cc own nL d mc ms) {q0 a idx x : Nat} {fs : List Value} {ws2 : va_W} (hi : Fi X) (ho : own = RX3) (he : ws[q0]? = some (a, .inr (3, fs))) (hl0 : 2 < fs.length) (hw2 : ws.set q0 (a, .inr (3, fs.set 2 (.ref x))) = ws2) (hw : Cond.fieldLink own idx "SelfScale$Plan" "leftByShown" "LSelfScale$Row;" ∈ BIG) (hd : decode cc pc = .ok (.putfield idx, 3)) (k : JC E X Q ws2 cn sn (pc + 3) lv st) : JC E X Q ws cn sn pc lv (.ref x :: .ref a :: st) := by
  subst ho
  rcases X with ⟨p, l, e, R, s, m, args, below, meth, c, n0, A, z1, z2⟩
  obtain ⟨hx, hb, hml, hn0, hown, hts, hK, hlocks, hl9, hd1, hd2, hd3, hd4, hA⟩ := hF
  intro H locs ls hP hD hS hl
  subst hw2
  exact va_putF (v := .ref x) (ty := .object "SelfScale$Row") (C := RX3) (T := TX3) (N := 5) hx hb hts inX3 tyX3 tyX3_ok nmX3 hown hK hP hD hS q0 he rfl 2 (by decide) (hts _ hw) (fun _ h => h) rfl hi.1 rfl (by decide +kernel) rfl rfl hl0 hd (fun H1 locs1 hP hD hS => k H1 locs1 ls hP hD hS hl)
theorem jg3_2 {E : En} {X : Cx} {Q : State → Prop} {ws : va_W} {cn sn : Nat} {cc : ByteArray} {own : String} {nL d mc ms pc : Nat} {lv : List (Nat × Value)} {st : List Value} (hF : Fc E X cc own nL d mc ms) {q0 a idx x : Nat} {fs : List Value} (he : ws[q0]? = some (a, .inr (3, fs))) (hv : fs[2]? = some (.ref x)) (hw : Cond.fieldLink own idx "SelfScale$Plan" "leftByShown" "LSelfScale$Row;" ∈ BIG) (hd : decode cc pc = .ok (.getfield idx, 3)) (k : JC E X Q ws cn sn (pc + 3) lv (.ref x :: st)) : JC E X Q ws cn sn pc lv (.ref a :: st) := by
  rcases X with ⟨p, l, e, R, s, m, args, below, meth, c, n0, A, z1, z2⟩
  obtain ⟨hx, hb, hml, hn0, hown, hts, hK, hlocks, hl0, hd1, hd2, hd3, hd4, hA⟩ := hF
  intro H locs ls hP hD hS hl
  exact va_get (C := RX3) (T := TX3) (N := 5) hx hb hts inX3 hown hK hP q0 he rfl 2 (by decide) (hts _ hw) (fun _ h => h) hv hd (k H locs ls hP hD hS hl)
theorem jpF3_3 {E : En} {X : Cx} {Q : State → Prop} {ws : va_W} {cn sn : Nat} {cc : ByteArray} {own : String} {nL d mc ms pc : Nat} {lv : List (Nat × Value)} {st : List Value} (hF : Fc E X cc own nL d mc ms) {q0 a idx x : Nat} {fs : List Value} {ws2 : va_W} (hi : Fi X) (ho : own = RX3) (he : ws[q0]? = some (a, .inr (3, fs))) (hl0 : 3 < fs.length) (hw2 : ws.set q0 (a, .inr (3, fs.set 3 (.ref x))) = ws2) (hw : Cond.fieldLink own idx "SelfScale$Plan" "seenByOne" "LSelfScale$Row;" ∈ BIG) (hd : decode cc pc = .ok (.putfield idx, 3)) (k : JC E X Q ws2 cn sn (pc + 3) lv st) : JC E X Q ws cn sn pc lv (.ref x :: .ref a :: st) := by
  subst ho
  rcases X with ⟨p, l, e, R, s, m, args, below, meth, c, n0, A, z1, z2⟩
  obtain ⟨hx, hb, hml, hn0, hown, hts, hK, hlocks, hl9, hd1, hd2, hd3, hd4, hA⟩ := hF
  intro H locs ls hP hD hS hl
  subst hw2
  exact va_putF (v := .ref x) (ty := .object "SelfScale$Row") (C := RX3) (T := TX3) (N := 5) hx hb hts inX3 tyX3 tyX3_ok nmX3 hown hK hP hD hS q0 he rfl 3 (by decide) (hts _ hw) (fun _ h => h) rfl hi.1 rfl (by decide +kernel) rfl rfl hl0 hd (fun H1 locs1 hP hD hS => k H1 locs1 ls hP hD hS hl)
theorem jg3_3 {E : En} {X : Cx} {Q : State → Prop} {ws : va_W} {cn sn : Nat} {cc : ByteArray} {own : String} {nL d mc ms pc : Nat} {lv : List (Nat × Value)} {st : List Value} (hF : Fc E X cc own nL d mc ms) {q0 a idx x : Nat} {fs : List Value} (he : ws[q0]? = some (a, .inr (3, fs))) (hv : fs[3]? = some (.ref x)) (hw : Cond.fieldLink own idx "SelfScale$Plan" "seenByOne" "LSelfScale$Row;" ∈ BIG) (hd : decode cc pc = .ok (.getfield idx, 3)) (k : JC E X Q ws cn sn (pc + 3) lv (.ref x :: st)) : JC E X Q ws cn sn pc lv (.ref a :: st) := by
  rcases X with ⟨p, l, e, R, s, m, args, below, meth, c, n0, A, z1, z2⟩
  obtain ⟨hx, hb, hml, hn0, hown, hts, hK, hlocks, hl0, hd1, hd2, hd3, hd4, hA⟩ := hF
  intro H locs ls hP hD hS hl
  exact va_get (C := RX3) (T := TX3) (N := 5) hx hb hts inX3 hown hK hP q0 he rfl 3 (by decide) (hts _ hw) (fun _ h => h) hv hd (k H locs ls hP hD hS hl)
theorem jpF3_4 {E : En} {X : Cx} {Q : State → Prop} {ws : va_W} {cn sn : Nat} {cc : ByteArray} {own : String} {nL d mc ms pc : Nat} {lv : List (Nat × Value)} {st : List Value} (hF : Fc E X cc own nL d mc ms) {q0 a idx x : Nat} {fs : List Value} {ws2 : va_W} (hi : Fi X) (ho : own = RX3) (he : ws[q0]? = some (a, .inr (3, fs))) (hl0 : 4 < fs.length) (hw2 : ws.set q0 (a, .inr (3, fs.set 4 (.ref x))) = ws2) (hw : Cond.fieldLink own idx "SelfScale$Plan" "seenByTwo" "LSelfScale$Row;" ∈ BIG) (hd : decode cc pc = .ok (.putfield idx, 3)) (k : JC E X Q ws2 cn sn (pc + 3) lv st) : JC E X Q ws cn sn pc lv (.ref x :: .ref a :: st) := by
  subst ho
  rcases X with ⟨p, l, e, R, s, m, args, below, meth, c, n0, A, z1, z2⟩
  obtain ⟨hx, hb, hml, hn0, hown, hts, hK, hlocks, hl9, hd1, hd2, hd3, hd4, hA⟩ := hF
  intro H locs ls hP hD hS hl
  subst hw2
  exact va_putF (v := .ref x) (ty := .object "SelfScale$Row") (C := RX3) (T := TX3) (N := 5) hx hb hts inX3 tyX3 tyX3_ok nmX3 hown hK hP hD hS q0 he rfl 4 (by decide) (hts _ hw) (fun _ h => h) rfl hi.1 rfl (by decide +kernel) rfl rfl hl0 hd (fun H1 locs1 hP hD hS => k H1 locs1 ls hP hD hS hl)
theorem jg3_4 {E : En} {X : Cx} {Q : State → Prop} {ws : va_W} {cn sn : Nat} {cc : ByteArray} {own : String} {nL d mc ms pc : Nat} {lv : List (Nat × Value)} {st : List Value} (hF : Fc E X cc own nL d mc ms) {q0 a idx x : Nat} {fs : List Value} (he : ws[q0]? = some (a, .inr (3, fs))) (hv : fs[4]? = some (.ref x)) (hw : Cond.fieldLink own idx "SelfScale$Plan" "seenByTwo" "LSelfScale$Row;" ∈ BIG) (hd : decode cc pc = .ok (.getfield idx, 3)) (k : JC E X Q ws cn sn (pc + 3) lv (.ref x :: st)) : JC E X Q ws cn sn pc lv (.ref a :: st) := by
  rcases X with ⟨p, l, e, R, s, m, args, below, meth, c, n0, A, z1, z2⟩
  obtain ⟨hx, hb, hml, hn0, hown, hts, hK, hlocks, hl0, hd1, hd2, hd3, hd4, hA⟩ := hF
  intro H locs ls hP hD hS hl
  exact va_get (C := RX3) (T := TX3) (N := 5) hx hb hts inX3 hown hK hP q0 he rfl 4 (by decide) (hts _ hw) (fun _ h => h) hv hd (k H locs ls hP hD hS hl)
theorem jn4 {E : En} {X : Cx} {Q : State → Prop} {ws : va_W} {cn sn : Nat} {cc : ByteArray} {own : String} {nL d mc ms pc : Nat} {lv : List (Nat × Value)} {st : List Value} (hF : Fc E X cc own nL d mc ms) {idx : Nat} (wl : Cond.classLink own idx RX4 ∈ BIG) (hc1 : cn + 1 ≤ mc) (hs1 : sn + 8 ≤ ms) (hd : decode cc pc = .ok (.new idx, 3)) (k : ∀ q : Nat, JC E X Q (ws ++ [(q, .inr (4, [.null, .null, .int 0, .int 0, .int 0, .int 0, .int 0, .int 0]))]) (cn + 1) (sn + 8) (pc + 3) lv (.ref q :: st)) : JC E X Q ws cn sn pc lv st := by
  rcases X with ⟨p, l, e, R, s, m, args, below, meth, c, n0, A, z1, z2⟩
  obtain ⟨hx, hb, hml, hn0, hown, hts, hK, hlocks, hl0, hd1, hd2, hd3, hd4, hA⟩ := hF
  intro H locs ls hP hD hS hl
  exact va_new (ci := 4) (fs := [.null, .null, .int 0, .int 0, .int 0, .int 0, .int 0, .int 0]) (C := RX4) (T := TX4) (N := 8) hx hb hts inX4 tyX4 tyX4_ok hown (hts _ wl) (hts _ bw_1_51) (hts _ bw_1_4) hK hP hD hS hA rfl (fun j hj => by rcases (show j = 0 ∨ j = 1 ∨ j = 2 ∨ j = 3 ∨ j = 4 ∨ j = 5 ∨ j = 6 ∨ j = 7 by omega) with rfl | rfl | rfl | rfl | rfl | rfl | rfl | rfl <;> rfl) (by omega) (by omega) hd (fun q H1 hP hD hS => k q H1 locs ls hP hD hS hl)
theorem jpF4_0 {E : En} {X : Cx} {Q : State → Prop} {ws : va_W} {cn sn : Nat} {cc : ByteArray} {own : String} {nL d mc ms pc : Nat} {lv : List (Nat × Value)} {st : List Value} (hF : Fc E X cc own nL d mc ms) {q0 a idx x : Nat} {fs : List Value} {ws2 : va_W} (hi : Fi X) (ho : own = RX4) (he : ws[q0]? = some (a, .inr (4, fs))) (hl0 : 0 < fs.length) (hw2 : ws.set q0 (a, .inr (4, fs.set 0 (.ref x))) = ws2) (hw : Cond.fieldLink own idx "SelfScale$Reader" "text" "LSelfScale$Text;" ∈ BIG) (hd : decode cc pc = .ok (.putfield idx, 3)) (k : JC E X Q ws2 cn sn (pc + 3) lv st) : JC E X Q ws cn sn pc lv (.ref x :: .ref a :: st) := by
  subst ho
  rcases X with ⟨p, l, e, R, s, m, args, below, meth, c, n0, A, z1, z2⟩
  obtain ⟨hx, hb, hml, hn0, hown, hts, hK, hlocks, hl9, hd1, hd2, hd3, hd4, hA⟩ := hF
  intro H locs ls hP hD hS hl
  subst hw2
  exact va_putF (v := .ref x) (ty := .object "SelfScale$Text") (C := RX4) (T := TX4) (N := 8) hx hb hts inX4 tyX4 tyX4_ok nmX4 hown hK hP hD hS q0 he rfl 0 (by decide) (hts _ hw) (fun _ h => h) rfl hi.1 rfl (by decide +kernel) rfl rfl hl0 hd (fun H1 locs1 hP hD hS => k H1 locs1 ls hP hD hS hl)
theorem jg4_0 {E : En} {X : Cx} {Q : State → Prop} {ws : va_W} {cn sn : Nat} {cc : ByteArray} {own : String} {nL d mc ms pc : Nat} {lv : List (Nat × Value)} {st : List Value} (hF : Fc E X cc own nL d mc ms) {q0 a idx x : Nat} {fs : List Value} (he : ws[q0]? = some (a, .inr (4, fs))) (hv : fs[0]? = some (.ref x)) (hw : Cond.fieldLink own idx "SelfScale$Reader" "text" "LSelfScale$Text;" ∈ BIG) (hd : decode cc pc = .ok (.getfield idx, 3)) (k : JC E X Q ws cn sn (pc + 3) lv (.ref x :: st)) : JC E X Q ws cn sn pc lv (.ref a :: st) := by
  rcases X with ⟨p, l, e, R, s, m, args, below, meth, c, n0, A, z1, z2⟩
  obtain ⟨hx, hb, hml, hn0, hown, hts, hK, hlocks, hl0, hd1, hd2, hd3, hd4, hA⟩ := hF
  intro H locs ls hP hD hS hl
  exact va_get (C := RX4) (T := TX4) (N := 8) hx hb hts inX4 hown hK hP q0 he rfl 0 (by decide) (hts _ hw) (fun _ h => h) hv hd (k H locs ls hP hD hS hl)
theorem jpF4_1 {E : En} {X : Cx} {Q : State → Prop} {ws : va_W} {cn sn : Nat} {cc : ByteArray} {own : String} {nL d mc ms pc : Nat} {lv : List (Nat × Value)} {st : List Value} (hF : Fc E X cc own nL d mc ms) {q0 a idx x : Nat} {fs : List Value} {ws2 : va_W} (hi : Fi X) (ho : own = RX4) (he : ws[q0]? = some (a, .inr (4, fs))) (hl0 : 1 < fs.length) (hw2 : ws.set q0 (a, .inr (4, fs.set 1 (.ref x))) = ws2) (hw : Cond.fieldLink own idx "SelfScale$Reader" "told" "LSelfScale$Scale;" ∈ BIG) (hd : decode cc pc = .ok (.putfield idx, 3)) (k : JC E X Q ws2 cn sn (pc + 3) lv st) : JC E X Q ws cn sn pc lv (.ref x :: .ref a :: st) := by
  subst ho
  rcases X with ⟨p, l, e, R, s, m, args, below, meth, c, n0, A, z1, z2⟩
  obtain ⟨hx, hb, hml, hn0, hown, hts, hK, hlocks, hl9, hd1, hd2, hd3, hd4, hA⟩ := hF
  intro H locs ls hP hD hS hl
  subst hw2
  exact va_putF (v := .ref x) (ty := .object "SelfScale$Scale") (C := RX4) (T := TX4) (N := 8) hx hb hts inX4 tyX4 tyX4_ok nmX4 hown hK hP hD hS q0 he rfl 1 (by decide) (hts _ hw) (fun _ h => h) rfl hi.1 rfl (by decide +kernel) rfl rfl hl0 hd (fun H1 locs1 hP hD hS => k H1 locs1 ls hP hD hS hl)
theorem jg4_1 {E : En} {X : Cx} {Q : State → Prop} {ws : va_W} {cn sn : Nat} {cc : ByteArray} {own : String} {nL d mc ms pc : Nat} {lv : List (Nat × Value)} {st : List Value} (hF : Fc E X cc own nL d mc ms) {q0 a idx x : Nat} {fs : List Value} (he : ws[q0]? = some (a, .inr (4, fs))) (hv : fs[1]? = some (.ref x)) (hw : Cond.fieldLink own idx "SelfScale$Reader" "told" "LSelfScale$Scale;" ∈ BIG) (hd : decode cc pc = .ok (.getfield idx, 3)) (k : JC E X Q ws cn sn (pc + 3) lv (.ref x :: st)) : JC E X Q ws cn sn pc lv (.ref a :: st) := by
  rcases X with ⟨p, l, e, R, s, m, args, below, meth, c, n0, A, z1, z2⟩
  obtain ⟨hx, hb, hml, hn0, hown, hts, hK, hlocks, hl0, hd1, hd2, hd3, hd4, hA⟩ := hF
  intro H locs ls hP hD hS hl
  exact va_get (C := RX4) (T := TX4) (N := 8) hx hb hts inX4 hown hK hP q0 he rfl 1 (by decide) (hts _ hw) (fun _ h => h) hv hd (k H locs ls hP hD hS hl)
theorem jn5 {E : En} {X : Cx} {Q : State → Prop} {ws : va_W} {cn sn : Nat} {cc : ByteArray} {own : String} {nL d mc ms pc : Nat} {lv : List (Nat × Value)} {st : List Value} (hF : Fc E X cc own nL d mc ms) {idx : Nat} (wl : Cond.classLink own idx RX5 ∈ BIG) (hc1 : cn + 1 ≤ mc) (hs1 : sn + 1 ≤ ms) (hd : decode cc pc = .ok (.new idx, 3)) (k : ∀ q : Nat, JC E X Q (ws ++ [(q, .inr (5, [.null]))]) (cn + 1) (sn + 1) (pc + 3) lv (.ref q :: st)) : JC E X Q ws cn sn pc lv st := by
  rcases X with ⟨p, l, e, R, s, m, args, below, meth, c, n0, A, z1, z2⟩
  obtain ⟨hx, hb, hml, hn0, hown, hts, hK, hlocks, hl0, hd1, hd2, hd3, hd4, hA⟩ := hF
  intro H locs ls hP hD hS hl
  exact va_new (ci := 5) (fs := [.null]) (C := RX5) (T := TX5) (N := 1) hx hb hts inX5 tyX5 tyX5_ok hown (hts _ wl) (hts _ bw_1_33) (hts _ bw_1_3) hK hP hD hS hA rfl (fun j hj => by
    have e : j = 0 := by omega
    subst e
    rfl) (by omega) (by omega) hd (fun q H1 hP hD hS => k q H1 locs ls hP hD hS hl)
theorem jpF5_0 {E : En} {X : Cx} {Q : State → Prop} {ws : va_W} {cn sn : Nat} {cc : ByteArray} {own : String} {nL d mc ms pc : Nat} {lv : List (Nat × Value)} {st : List Value} (hF : Fc E X cc own nL d mc ms) {q0 a idx x : Nat} {fs : List Value} {ws2 : va_W} (hi : Fi X) (ho : own = RX5) (he : ws[q0]? = some (a, .inr (5, fs))) (hl0 : 0 < fs.length) (hw2 : ws.set q0 (a, .inr (5, fs.set 0 (.ref x))) = ws2) (hw : Cond.fieldLink own idx "SelfScale$Row" "cells" "[I" ∈ BIG) (hd : decode cc pc = .ok (.putfield idx, 3)) (k : JC E X Q ws2 cn sn (pc + 3) lv st) : JC E X Q ws cn sn pc lv (.ref x :: .ref a :: st) := by
  subst ho
  rcases X with ⟨p, l, e, R, s, m, args, below, meth, c, n0, A, z1, z2⟩
  obtain ⟨hx, hb, hml, hn0, hown, hts, hK, hlocks, hl9, hd1, hd2, hd3, hd4, hA⟩ := hF
  intro H locs ls hP hD hS hl
  subst hw2
  exact va_putF (v := .ref x) (ty := .array .int) (C := RX5) (T := TX5) (N := 1) hx hb hts inX5 tyX5 tyX5_ok nmX5 hown hK hP hD hS q0 he rfl 0 (by decide) (hts _ hw) (fun _ h => h) rfl hi.1 rfl (by decide +kernel) rfl rfl hl0 hd (fun H1 locs1 hP hD hS => k H1 locs1 ls hP hD hS hl)
theorem jg5_0 {E : En} {X : Cx} {Q : State → Prop} {ws : va_W} {cn sn : Nat} {cc : ByteArray} {own : String} {nL d mc ms pc : Nat} {lv : List (Nat × Value)} {st : List Value} (hF : Fc E X cc own nL d mc ms) {q0 a idx x : Nat} {fs : List Value} (he : ws[q0]? = some (a, .inr (5, fs))) (hv : fs[0]? = some (.ref x)) (hw : Cond.fieldLink own idx "SelfScale$Row" "cells" "[I" ∈ BIG) (hd : decode cc pc = .ok (.getfield idx, 3)) (k : JC E X Q ws cn sn (pc + 3) lv (.ref x :: st)) : JC E X Q ws cn sn pc lv (.ref a :: st) := by
  rcases X with ⟨p, l, e, R, s, m, args, below, meth, c, n0, A, z1, z2⟩
  obtain ⟨hx, hb, hml, hn0, hown, hts, hK, hlocks, hl0, hd1, hd2, hd3, hd4, hA⟩ := hF
  intro H locs ls hP hD hS hl
  exact va_get (C := RX5) (T := TX5) (N := 1) hx hb hts inX5 hown hK hP q0 he rfl 0 (by decide) (hts _ hw) (fun _ h => h) hv hd (k H locs ls hP hD hS hl)
theorem jn6 {E : En} {X : Cx} {Q : State → Prop} {ws : va_W} {cn sn : Nat} {cc : ByteArray} {own : String} {nL d mc ms pc : Nat} {lv : List (Nat × Value)} {st : List Value} (hF : Fc E X cc own nL d mc ms) {idx : Nat} (wl : Cond.classLink own idx RX6 ∈ BIG) (hc1 : cn + 1 ≤ mc) (hs1 : sn + 5 ≤ ms) (hd : decode cc pc = .ok (.new idx, 3)) (k : ∀ q : Nat, JC E X Q (ws ++ [(q, .inr (6, [.null, .null, .int 0, .int 0, .int 0]))]) (cn + 1) (sn + 5) (pc + 3) lv (.ref q :: st)) : JC E X Q ws cn sn pc lv st := by
  rcases X with ⟨p, l, e, R, s, m, args, below, meth, c, n0, A, z1, z2⟩
  obtain ⟨hx, hb, hml, hn0, hown, hts, hK, hlocks, hl0, hd1, hd2, hd3, hd4, hA⟩ := hF
  intro H locs ls hP hD hS hl
  exact va_new (ci := 6) (fs := [.null, .null, .int 0, .int 0, .int 0]) (C := RX6) (T := TX6) (N := 5) hx hb hts inX6 tyX6 tyX6_ok hown (hts _ wl) (hts _ bw_1_57) (hts _ bw_1_5) hK hP hD hS hA rfl (fun j hj => by rcases (show j = 0 ∨ j = 1 ∨ j = 2 ∨ j = 3 ∨ j = 4 by omega) with rfl | rfl | rfl | rfl | rfl <;> rfl) (by omega) (by omega) hd (fun q H1 hP hD hS => k q H1 locs ls hP hD hS hl)
theorem jpF6_0 {E : En} {X : Cx} {Q : State → Prop} {ws : va_W} {cn sn : Nat} {cc : ByteArray} {own : String} {nL d mc ms pc : Nat} {lv : List (Nat × Value)} {st : List Value} (hF : Fc E X cc own nL d mc ms) {q0 a idx x : Nat} {fs : List Value} {ws2 : va_W} (hi : Fi X) (ho : own = RX6) (he : ws[q0]? = some (a, .inr (6, fs))) (hl0 : 0 < fs.length) (hw2 : ws.set q0 (a, .inr (6, fs.set 0 (.ref x))) = ws2) (hw : Cond.fieldLink own idx "SelfScale$Scale" "weights" "LSelfScale$Row;" ∈ BIG) (hd : decode cc pc = .ok (.putfield idx, 3)) (k : JC E X Q ws2 cn sn (pc + 3) lv st) : JC E X Q ws cn sn pc lv (.ref x :: .ref a :: st) := by
  subst ho
  rcases X with ⟨p, l, e, R, s, m, args, below, meth, c, n0, A, z1, z2⟩
  obtain ⟨hx, hb, hml, hn0, hown, hts, hK, hlocks, hl9, hd1, hd2, hd3, hd4, hA⟩ := hF
  intro H locs ls hP hD hS hl
  subst hw2
  exact va_putF (v := .ref x) (ty := .object "SelfScale$Row") (C := RX6) (T := TX6) (N := 5) hx hb hts inX6 tyX6 tyX6_ok nmX6 hown hK hP hD hS q0 he rfl 0 (by decide) (hts _ hw) (fun _ h => h) rfl hi.1 rfl (by decide +kernel) rfl rfl hl0 hd (fun H1 locs1 hP hD hS => k H1 locs1 ls hP hD hS hl)
theorem jg6_0 {E : En} {X : Cx} {Q : State → Prop} {ws : va_W} {cn sn : Nat} {cc : ByteArray} {own : String} {nL d mc ms pc : Nat} {lv : List (Nat × Value)} {st : List Value} (hF : Fc E X cc own nL d mc ms) {q0 a idx x : Nat} {fs : List Value} (he : ws[q0]? = some (a, .inr (6, fs))) (hv : fs[0]? = some (.ref x)) (hw : Cond.fieldLink own idx "SelfScale$Scale" "weights" "LSelfScale$Row;" ∈ BIG) (hd : decode cc pc = .ok (.getfield idx, 3)) (k : JC E X Q ws cn sn (pc + 3) lv (.ref x :: st)) : JC E X Q ws cn sn pc lv (.ref a :: st) := by
  rcases X with ⟨p, l, e, R, s, m, args, below, meth, c, n0, A, z1, z2⟩
  obtain ⟨hx, hb, hml, hn0, hown, hts, hK, hlocks, hl0, hd1, hd2, hd3, hd4, hA⟩ := hF
  intro H locs ls hP hD hS hl
  exact va_get (C := RX6) (T := TX6) (N := 5) hx hb hts inX6 hown hK hP q0 he rfl 0 (by decide) (hts _ hw) (fun _ h => h) hv hd (k H locs ls hP hD hS hl)
theorem jpF6_1 {E : En} {X : Cx} {Q : State → Prop} {ws : va_W} {cn sn : Nat} {cc : ByteArray} {own : String} {nL d mc ms pc : Nat} {lv : List (Nat × Value)} {st : List Value} (hF : Fc E X cc own nL d mc ms) {q0 a idx x : Nat} {fs : List Value} {ws2 : va_W} (hi : Fi X) (ho : own = RX6) (he : ws[q0]? = some (a, .inr (6, fs))) (hl0 : 1 < fs.length) (hw2 : ws.set q0 (a, .inr (6, fs.set 1 (.ref x))) = ws2) (hw : Cond.fieldLink own idx "SelfScale$Scale" "outcomes" "LSelfScale$Row;" ∈ BIG) (hd : decode cc pc = .ok (.putfield idx, 3)) (k : JC E X Q ws2 cn sn (pc + 3) lv st) : JC E X Q ws cn sn pc lv (.ref x :: .ref a :: st) := by
  subst ho
  rcases X with ⟨p, l, e, R, s, m, args, below, meth, c, n0, A, z1, z2⟩
  obtain ⟨hx, hb, hml, hn0, hown, hts, hK, hlocks, hl9, hd1, hd2, hd3, hd4, hA⟩ := hF
  intro H locs ls hP hD hS hl
  subst hw2
  exact va_putF (v := .ref x) (ty := .object "SelfScale$Row") (C := RX6) (T := TX6) (N := 5) hx hb hts inX6 tyX6 tyX6_ok nmX6 hown hK hP hD hS q0 he rfl 1 (by decide) (hts _ hw) (fun _ h => h) rfl hi.1 rfl (by decide +kernel) rfl rfl hl0 hd (fun H1 locs1 hP hD hS => k H1 locs1 ls hP hD hS hl)
theorem jg6_1 {E : En} {X : Cx} {Q : State → Prop} {ws : va_W} {cn sn : Nat} {cc : ByteArray} {own : String} {nL d mc ms pc : Nat} {lv : List (Nat × Value)} {st : List Value} (hF : Fc E X cc own nL d mc ms) {q0 a idx x : Nat} {fs : List Value} (he : ws[q0]? = some (a, .inr (6, fs))) (hv : fs[1]? = some (.ref x)) (hw : Cond.fieldLink own idx "SelfScale$Scale" "outcomes" "LSelfScale$Row;" ∈ BIG) (hd : decode cc pc = .ok (.getfield idx, 3)) (k : JC E X Q ws cn sn (pc + 3) lv (.ref x :: st)) : JC E X Q ws cn sn pc lv (.ref a :: st) := by
  rcases X with ⟨p, l, e, R, s, m, args, below, meth, c, n0, A, z1, z2⟩
  obtain ⟨hx, hb, hml, hn0, hown, hts, hK, hlocks, hl0, hd1, hd2, hd3, hd4, hA⟩ := hF
  intro H locs ls hP hD hS hl
  exact va_get (C := RX6) (T := TX6) (N := 5) hx hb hts inX6 hown hK hP q0 he rfl 1 (by decide) (hts _ hw) (fun _ h => h) hv hd (k H locs ls hP hD hS hl)
theorem jp6_4 {E : En} {X : Cx} {Q : State → Prop} {ws : va_W} {cn sn : Nat} {cc : ByteArray} {own : String} {nL d mc ms pc : Nat} {lv : List (Nat × Value)} {st : List Value} (hF : Fc E X cc own nL d mc ms) {q0 a idx : Nat} {x : Int32} {fs : List Value} {ws2 : va_W} (he : ws[q0]? = some (a, .inr (6, fs))) (hl0 : 4 < fs.length) (hw2 : ws.set q0 (a, .inr (6, fs.set 4 (.int x))) = ws2) (hw : Cond.fieldLink own idx "SelfScale$Scale" "figures" "I" ∈ BIG) (hd : decode cc pc = .ok (.putfield idx, 3)) (k : JC E X Q ws2 cn sn (pc + 3) lv st) : JC E X Q ws cn sn pc lv (.int x :: .ref a :: st) := by
  rcases X with ⟨p, l, e, R, s, m, args, below, meth, c, n0, A, z1, z2⟩
  obtain ⟨hx, hb, hml, hn0, hown, hts, hK, hlocks, hl9, hd1, hd2, hd3, hd4, hA⟩ := hF
  intro H locs ls hP hD hS hl
  subst hw2
  exact va_put (v := .int x) (ty := .int) (C := RX6) (T := TX6) (N := 5) hx hb hts inX6 tyX6 tyX6_ok nmX6 hown hK hP hD hS q0 he rfl 4 (by decide) (hts _ hw) (fun _ h => h) rfl (by decide +kernel) rfl rfl hl0 hd (fun H1 locs1 hP hD hS => k H1 locs1 ls hP hD hS hl)
theorem jn7 {E : En} {X : Cx} {Q : State → Prop} {ws : va_W} {cn sn : Nat} {cc : ByteArray} {own : String} {nL d mc ms pc : Nat} {lv : List (Nat × Value)} {st : List Value} (hF : Fc E X cc own nL d mc ms) {idx : Nat} (wl : Cond.classLink own idx RX7 ∈ BIG) (hc1 : cn + 1 ≤ mc) (hs1 : sn + 2 ≤ ms) (hd : decode cc pc = .ok (.new idx, 3)) (k : ∀ q : Nat, JC E X Q (ws ++ [(q, .inr (7, [.null, .int 0]))]) (cn + 1) (sn + 2) (pc + 3) lv (.ref q :: st)) : JC E X Q ws cn sn pc lv st := by
  rcases X with ⟨p, l, e, R, s, m, args, below, meth, c, n0, A, z1, z2⟩
  obtain ⟨hx, hb, hml, hn0, hown, hts, hK, hlocks, hl0, hd1, hd2, hd3, hd4, hA⟩ := hF
  intro H locs ls hP hD hS hl
  exact va_new (ci := 7) (fs := [.null, .int 0]) (C := RX7) (T := TX7) (N := 2) hx hb hts inX7 tyX7 tyX7_ok hown (hts _ wl) (hts _ bw_1_27) (hts _ bw_1_2) hK hP hD hS hA rfl (fun j hj => by rcases (show j = 0 ∨ j = 1 by omega) with rfl | rfl <;> rfl) (by omega) (by omega) hd (fun q H1 hP hD hS => k q H1 locs ls hP hD hS hl)
theorem jpF7_0 {E : En} {X : Cx} {Q : State → Prop} {ws : va_W} {cn sn : Nat} {cc : ByteArray} {own : String} {nL d mc ms pc : Nat} {lv : List (Nat × Value)} {st : List Value} (hF : Fc E X cc own nL d mc ms) {q0 a idx x : Nat} {fs : List Value} {ws2 : va_W} (hi : Fi X) (ho : own = RX7) (he : ws[q0]? = some (a, .inr (7, fs))) (hl0 : 0 < fs.length) (hw2 : ws.set q0 (a, .inr (7, fs.set 0 (.ref x))) = ws2) (hw : Cond.fieldLink own idx "SelfScale$Text" "bytes" "LSelfScale$Row;" ∈ BIG) (hd : decode cc pc = .ok (.putfield idx, 3)) (k : JC E X Q ws2 cn sn (pc + 3) lv st) : JC E X Q ws cn sn pc lv (.ref x :: .ref a :: st) := by
  subst ho
  rcases X with ⟨p, l, e, R, s, m, args, below, meth, c, n0, A, z1, z2⟩
  obtain ⟨hx, hb, hml, hn0, hown, hts, hK, hlocks, hl9, hd1, hd2, hd3, hd4, hA⟩ := hF
  intro H locs ls hP hD hS hl
  subst hw2
  exact va_putF (v := .ref x) (ty := .object "SelfScale$Row") (C := RX7) (T := TX7) (N := 2) hx hb hts inX7 tyX7 tyX7_ok nmX7 hown hK hP hD hS q0 he rfl 0 (by decide) (hts _ hw) (fun _ h => h) rfl hi.1 rfl (by decide +kernel) rfl rfl hl0 hd (fun H1 locs1 hP hD hS => k H1 locs1 ls hP hD hS hl)
theorem jg7_0 {E : En} {X : Cx} {Q : State → Prop} {ws : va_W} {cn sn : Nat} {cc : ByteArray} {own : String} {nL d mc ms pc : Nat} {lv : List (Nat × Value)} {st : List Value} (hF : Fc E X cc own nL d mc ms) {q0 a idx x : Nat} {fs : List Value} (he : ws[q0]? = some (a, .inr (7, fs))) (hv : fs[0]? = some (.ref x)) (hw : Cond.fieldLink own idx "SelfScale$Text" "bytes" "LSelfScale$Row;" ∈ BIG) (hd : decode cc pc = .ok (.getfield idx, 3)) (k : JC E X Q ws cn sn (pc + 3) lv (.ref x :: st)) : JC E X Q ws cn sn pc lv (.ref a :: st) := by
  rcases X with ⟨p, l, e, R, s, m, args, below, meth, c, n0, A, z1, z2⟩
  obtain ⟨hx, hb, hml, hn0, hown, hts, hK, hlocks, hl0, hd1, hd2, hd3, hd4, hA⟩ := hF
  intro H locs ls hP hD hS hl
  exact va_get (C := RX7) (T := TX7) (N := 2) hx hb hts inX7 hown hK hP q0 he rfl 0 (by decide) (hts _ hw) (fun _ h => h) hv hd (k H locs ls hP hD hS hl)
theorem jn8 {E : En} {X : Cx} {Q : State → Prop} {ws : va_W} {cn sn : Nat} {cc : ByteArray} {own : String} {nL d mc ms pc : Nat} {lv : List (Nat × Value)} {st : List Value} (hF : Fc E X cc own nL d mc ms) {idx : Nat} (wl : Cond.classLink own idx RX8 ∈ BIG) (hc1 : cn + 1 ≤ mc) (hs1 : sn + 11 ≤ ms) (hd : decode cc pc = .ok (.new idx, 3)) (k : ∀ q : Nat, JC E X Q (ws ++ [(q, .inr (8, [.null, .null, .null, .null, .null, .null, .null, .int 0, .int 0, .int 0, .int 0]))]) (cn + 1) (sn + 11) (pc + 3) lv (.ref q :: st)) : JC E X Q ws cn sn pc lv st := by
  rcases X with ⟨p, l, e, R, s, m, args, below, meth, c, n0, A, z1, z2⟩
  obtain ⟨hx, hb, hml, hn0, hown, hts, hK, hlocks, hl0, hd1, hd2, hd3, hd4, hA⟩ := hF
  intro H locs ls hP hD hS hl
  exact va_new (ci := 8) (fs := [.null, .null, .null, .null, .null, .null, .null, .int 0, .int 0, .int 0, .int 0]) (C := RX8) (T := TX8) (N := 11) hx hb hts inX8 tyX8 tyX8_ok hown (hts _ wl) (hts _ bw_1_160) (hts _ bw_1_9) hK hP hD hS hA rfl (fun j hj => by rcases (show j = 0 ∨ j = 1 ∨ j = 2 ∨ j = 3 ∨ j = 4 ∨ j = 5 ∨ j = 6 ∨ j = 7 ∨ j = 8 ∨ j = 9 ∨ j = 10 by omega) with rfl | rfl | rfl | rfl | rfl | rfl | rfl | rfl | rfl | rfl | rfl <;> rfl) (by omega) (by omega) hd (fun q H1 hP hD hS => k q H1 locs ls hP hD hS hl)
theorem jpF8_0 {E : En} {X : Cx} {Q : State → Prop} {ws : va_W} {cn sn : Nat} {cc : ByteArray} {own : String} {nL d mc ms pc : Nat} {lv : List (Nat × Value)} {st : List Value} (hF : Fc E X cc own nL d mc ms) {q0 a idx x : Nat} {fs : List Value} {ws2 : va_W} (hi : Fi X) (ho : own = RX8) (he : ws[q0]? = some (a, .inr (8, fs))) (hl0 : 0 < fs.length) (hw2 : ws.set q0 (a, .inr (8, fs.set 0 (.ref x))) = ws2) (hw : Cond.fieldLink own idx "SelfScale$Worlds" "scale" "LSelfScale$Scale;" ∈ BIG) (hd : decode cc pc = .ok (.putfield idx, 3)) (k : JC E X Q ws2 cn sn (pc + 3) lv st) : JC E X Q ws cn sn pc lv (.ref x :: .ref a :: st) := by
  subst ho
  rcases X with ⟨p, l, e, R, s, m, args, below, meth, c, n0, A, z1, z2⟩
  obtain ⟨hx, hb, hml, hn0, hown, hts, hK, hlocks, hl9, hd1, hd2, hd3, hd4, hA⟩ := hF
  intro H locs ls hP hD hS hl
  subst hw2
  exact va_putF (v := .ref x) (ty := .object "SelfScale$Scale") (C := RX8) (T := TX8) (N := 11) hx hb hts inX8 tyX8 tyX8_ok nmX8 hown hK hP hD hS q0 he rfl 0 (by decide) (hts _ hw) (fun _ h => h) rfl hi.1 rfl (by decide +kernel) rfl rfl hl0 hd (fun H1 locs1 hP hD hS => k H1 locs1 ls hP hD hS hl)
theorem jg8_0 {E : En} {X : Cx} {Q : State → Prop} {ws : va_W} {cn sn : Nat} {cc : ByteArray} {own : String} {nL d mc ms pc : Nat} {lv : List (Nat × Value)} {st : List Value} (hF : Fc E X cc own nL d mc ms) {q0 a idx x : Nat} {fs : List Value} (he : ws[q0]? = some (a, .inr (8, fs))) (hv : fs[0]? = some (.ref x)) (hw : Cond.fieldLink own idx "SelfScale$Worlds" "scale" "LSelfScale$Scale;" ∈ BIG) (hd : decode cc pc = .ok (.getfield idx, 3)) (k : JC E X Q ws cn sn (pc + 3) lv (.ref x :: st)) : JC E X Q ws cn sn pc lv (.ref a :: st) := by
  rcases X with ⟨p, l, e, R, s, m, args, below, meth, c, n0, A, z1, z2⟩
  obtain ⟨hx, hb, hml, hn0, hown, hts, hK, hlocks, hl0, hd1, hd2, hd3, hd4, hA⟩ := hF
  intro H locs ls hP hD hS hl
  exact va_get (C := RX8) (T := TX8) (N := 11) hx hb hts inX8 hown hK hP q0 he rfl 0 (by decide) (hts _ hw) (fun _ h => h) hv hd (k H locs ls hP hD hS hl)
theorem jpF8_1 {E : En} {X : Cx} {Q : State → Prop} {ws : va_W} {cn sn : Nat} {cc : ByteArray} {own : String} {nL d mc ms pc : Nat} {lv : List (Nat × Value)} {st : List Value} (hF : Fc E X cc own nL d mc ms) {q0 a idx x : Nat} {fs : List Value} {ws2 : va_W} (hi : Fi X) (ho : own = RX8) (he : ws[q0]? = some (a, .inr (8, fs))) (hl0 : 1 < fs.length) (hw2 : ws.set q0 (a, .inr (8, fs.set 1 (.ref x))) = ws2) (hw : Cond.fieldLink own idx "SelfScale$Worlds" "book" "LSelfScale$Book;" ∈ BIG) (hd : decode cc pc = .ok (.putfield idx, 3)) (k : JC E X Q ws2 cn sn (pc + 3) lv st) : JC E X Q ws cn sn pc lv (.ref x :: .ref a :: st) := by
  subst ho
  rcases X with ⟨p, l, e, R, s, m, args, below, meth, c, n0, A, z1, z2⟩
  obtain ⟨hx, hb, hml, hn0, hown, hts, hK, hlocks, hl9, hd1, hd2, hd3, hd4, hA⟩ := hF
  intro H locs ls hP hD hS hl
  subst hw2
  exact va_putF (v := .ref x) (ty := .object "SelfScale$Book") (C := RX8) (T := TX8) (N := 11) hx hb hts inX8 tyX8 tyX8_ok nmX8 hown hK hP hD hS q0 he rfl 1 (by decide) (hts _ hw) (fun _ h => h) rfl hi.1 rfl (by decide +kernel) rfl rfl hl0 hd (fun H1 locs1 hP hD hS => k H1 locs1 ls hP hD hS hl)
theorem jg8_1 {E : En} {X : Cx} {Q : State → Prop} {ws : va_W} {cn sn : Nat} {cc : ByteArray} {own : String} {nL d mc ms pc : Nat} {lv : List (Nat × Value)} {st : List Value} (hF : Fc E X cc own nL d mc ms) {q0 a idx x : Nat} {fs : List Value} (he : ws[q0]? = some (a, .inr (8, fs))) (hv : fs[1]? = some (.ref x)) (hw : Cond.fieldLink own idx "SelfScale$Worlds" "book" "LSelfScale$Book;" ∈ BIG) (hd : decode cc pc = .ok (.getfield idx, 3)) (k : JC E X Q ws cn sn (pc + 3) lv (.ref x :: st)) : JC E X Q ws cn sn pc lv (.ref a :: st) := by
  rcases X with ⟨p, l, e, R, s, m, args, below, meth, c, n0, A, z1, z2⟩
  obtain ⟨hx, hb, hml, hn0, hown, hts, hK, hlocks, hl0, hd1, hd2, hd3, hd4, hA⟩ := hF
  intro H locs ls hP hD hS hl
  exact va_get (C := RX8) (T := TX8) (N := 11) hx hb hts inX8 hown hK hP q0 he rfl 1 (by decide) (hts _ hw) (fun _ h => h) hv hd (k H locs ls hP hD hS hl)
theorem jpF8_2 {E : En} {X : Cx} {Q : State → Prop} {ws : va_W} {cn sn : Nat} {cc : ByteArray} {own : String} {nL d mc ms pc : Nat} {lv : List (Nat × Value)} {st : List Value} (hF : Fc E X cc own nL d mc ms) {q0 a idx x : Nat} {fs : List Value} {ws2 : va_W} (hi : Fi X) (ho : own = RX8) (he : ws[q0]? = some (a, .inr (8, fs))) (hl0 : 2 < fs.length) (hw2 : ws.set q0 (a, .inr (8, fs.set 2 (.ref x))) = ws2) (hw : Cond.fieldLink own idx "SelfScale$Worlds" "codes" "LSelfScale$Row;" ∈ BIG) (hd : decode cc pc = .ok (.putfield idx, 3)) (k : JC E X Q ws2 cn sn (pc + 3) lv st) : JC E X Q ws cn sn pc lv (.ref x :: .ref a :: st) := by
  subst ho
  rcases X with ⟨p, l, e, R, s, m, args, below, meth, c, n0, A, z1, z2⟩
  obtain ⟨hx, hb, hml, hn0, hown, hts, hK, hlocks, hl9, hd1, hd2, hd3, hd4, hA⟩ := hF
  intro H locs ls hP hD hS hl
  subst hw2
  exact va_putF (v := .ref x) (ty := .object "SelfScale$Row") (C := RX8) (T := TX8) (N := 11) hx hb hts inX8 tyX8 tyX8_ok nmX8 hown hK hP hD hS q0 he rfl 2 (by decide) (hts _ hw) (fun _ h => h) rfl hi.1 rfl (by decide +kernel) rfl rfl hl0 hd (fun H1 locs1 hP hD hS => k H1 locs1 ls hP hD hS hl)
theorem jg8_2 {E : En} {X : Cx} {Q : State → Prop} {ws : va_W} {cn sn : Nat} {cc : ByteArray} {own : String} {nL d mc ms pc : Nat} {lv : List (Nat × Value)} {st : List Value} (hF : Fc E X cc own nL d mc ms) {q0 a idx x : Nat} {fs : List Value} (he : ws[q0]? = some (a, .inr (8, fs))) (hv : fs[2]? = some (.ref x)) (hw : Cond.fieldLink own idx "SelfScale$Worlds" "codes" "LSelfScale$Row;" ∈ BIG) (hd : decode cc pc = .ok (.getfield idx, 3)) (k : JC E X Q ws cn sn (pc + 3) lv (.ref x :: st)) : JC E X Q ws cn sn pc lv (.ref a :: st) := by
  rcases X with ⟨p, l, e, R, s, m, args, below, meth, c, n0, A, z1, z2⟩
  obtain ⟨hx, hb, hml, hn0, hown, hts, hK, hlocks, hl0, hd1, hd2, hd3, hd4, hA⟩ := hF
  intro H locs ls hP hD hS hl
  exact va_get (C := RX8) (T := TX8) (N := 11) hx hb hts inX8 hown hK hP q0 he rfl 2 (by decide) (hts _ hw) (fun _ h => h) hv hd (k H locs ls hP hD hS hl)
theorem jpF8_3 {E : En} {X : Cx} {Q : State → Prop} {ws : va_W} {cn sn : Nat} {cc : ByteArray} {own : String} {nL d mc ms pc : Nat} {lv : List (Nat × Value)} {st : List Value} (hF : Fc E X cc own nL d mc ms) {q0 a idx x : Nat} {fs : List Value} {ws2 : va_W} (hi : Fi X) (ho : own = RX8) (he : ws[q0]? = some (a, .inr (8, fs))) (hl0 : 3 < fs.length) (hw2 : ws.set q0 (a, .inr (8, fs.set 3 (.ref x))) = ws2) (hw : Cond.fieldLink own idx "SelfScale$Worlds" "leftBits" "LSelfScale$Row;" ∈ BIG) (hd : decode cc pc = .ok (.putfield idx, 3)) (k : JC E X Q ws2 cn sn (pc + 3) lv st) : JC E X Q ws cn sn pc lv (.ref x :: .ref a :: st) := by
  subst ho
  rcases X with ⟨p, l, e, R, s, m, args, below, meth, c, n0, A, z1, z2⟩
  obtain ⟨hx, hb, hml, hn0, hown, hts, hK, hlocks, hl9, hd1, hd2, hd3, hd4, hA⟩ := hF
  intro H locs ls hP hD hS hl
  subst hw2
  exact va_putF (v := .ref x) (ty := .object "SelfScale$Row") (C := RX8) (T := TX8) (N := 11) hx hb hts inX8 tyX8 tyX8_ok nmX8 hown hK hP hD hS q0 he rfl 3 (by decide) (hts _ hw) (fun _ h => h) rfl hi.1 rfl (by decide +kernel) rfl rfl hl0 hd (fun H1 locs1 hP hD hS => k H1 locs1 ls hP hD hS hl)
theorem jg8_3 {E : En} {X : Cx} {Q : State → Prop} {ws : va_W} {cn sn : Nat} {cc : ByteArray} {own : String} {nL d mc ms pc : Nat} {lv : List (Nat × Value)} {st : List Value} (hF : Fc E X cc own nL d mc ms) {q0 a idx x : Nat} {fs : List Value} (he : ws[q0]? = some (a, .inr (8, fs))) (hv : fs[3]? = some (.ref x)) (hw : Cond.fieldLink own idx "SelfScale$Worlds" "leftBits" "LSelfScale$Row;" ∈ BIG) (hd : decode cc pc = .ok (.getfield idx, 3)) (k : JC E X Q ws cn sn (pc + 3) lv (.ref x :: st)) : JC E X Q ws cn sn pc lv (.ref a :: st) := by
  rcases X with ⟨p, l, e, R, s, m, args, below, meth, c, n0, A, z1, z2⟩
  obtain ⟨hx, hb, hml, hn0, hown, hts, hK, hlocks, hl0, hd1, hd2, hd3, hd4, hA⟩ := hF
  intro H locs ls hP hD hS hl
  exact va_get (C := RX8) (T := TX8) (N := 11) hx hb hts inX8 hown hK hP q0 he rfl 3 (by decide) (hts _ hw) (fun _ h => h) hv hd (k H locs ls hP hD hS hl)
theorem jpF8_4 {E : En} {X : Cx} {Q : State → Prop} {ws : va_W} {cn sn : Nat} {cc : ByteArray} {own : String} {nL d mc ms pc : Nat} {lv : List (Nat × Value)} {st : List Value} (hF : Fc E X cc own nL d mc ms) {q0 a idx x : Nat} {fs : List Value} {ws2 : va_W} (hi : Fi X) (ho : own = RX8) (he : ws[q0]? = some (a, .inr (8, fs))) (hl0 : 4 < fs.length) (hw2 : ws.set q0 (a, .inr (8, fs.set 4 (.ref x))) = ws2) (hw : Cond.fieldLink own idx "SelfScale$Worlds" "leftByWeight" "LSelfScale$Row;" ∈ BIG) (hd : decode cc pc = .ok (.putfield idx, 3)) (k : JC E X Q ws2 cn sn (pc + 3) lv st) : JC E X Q ws cn sn pc lv (.ref x :: .ref a :: st) := by
  subst ho
  rcases X with ⟨p, l, e, R, s, m, args, below, meth, c, n0, A, z1, z2⟩
  obtain ⟨hx, hb, hml, hn0, hown, hts, hK, hlocks, hl9, hd1, hd2, hd3, hd4, hA⟩ := hF
  intro H locs ls hP hD hS hl
  subst hw2
  exact va_putF (v := .ref x) (ty := .object "SelfScale$Row") (C := RX8) (T := TX8) (N := 11) hx hb hts inX8 tyX8 tyX8_ok nmX8 hown hK hP hD hS q0 he rfl 4 (by decide) (hts _ hw) (fun _ h => h) rfl hi.1 rfl (by decide +kernel) rfl rfl hl0 hd (fun H1 locs1 hP hD hS => k H1 locs1 ls hP hD hS hl)
theorem jg8_4 {E : En} {X : Cx} {Q : State → Prop} {ws : va_W} {cn sn : Nat} {cc : ByteArray} {own : String} {nL d mc ms pc : Nat} {lv : List (Nat × Value)} {st : List Value} (hF : Fc E X cc own nL d mc ms) {q0 a idx x : Nat} {fs : List Value} (he : ws[q0]? = some (a, .inr (8, fs))) (hv : fs[4]? = some (.ref x)) (hw : Cond.fieldLink own idx "SelfScale$Worlds" "leftByWeight" "LSelfScale$Row;" ∈ BIG) (hd : decode cc pc = .ok (.getfield idx, 3)) (k : JC E X Q ws cn sn (pc + 3) lv (.ref x :: st)) : JC E X Q ws cn sn pc lv (.ref a :: st) := by
  rcases X with ⟨p, l, e, R, s, m, args, below, meth, c, n0, A, z1, z2⟩
  obtain ⟨hx, hb, hml, hn0, hown, hts, hK, hlocks, hl0, hd1, hd2, hd3, hd4, hA⟩ := hF
  intro H locs ls hP hD hS hl
  exact va_get (C := RX8) (T := TX8) (N := 11) hx hb hts inX8 hown hK hP q0 he rfl 4 (by decide) (hts _ hw) (fun _ h => h) hv hd (k H locs ls hP hD hS hl)
theorem jpF8_5 {E : En} {X : Cx} {Q : State → Prop} {ws : va_W} {cn sn : Nat} {cc : ByteArray} {own : String} {nL d mc ms pc : Nat} {lv : List (Nat × Value)} {st : List Value} (hF : Fc E X cc own nL d mc ms) {q0 a idx x : Nat} {fs : List Value} {ws2 : va_W} (hi : Fi X) (ho : own = RX8) (he : ws[q0]? = some (a, .inr (8, fs))) (hl0 : 5 < fs.length) (hw2 : ws.set q0 (a, .inr (8, fs.set 5 (.ref x))) = ws2) (hw : Cond.fieldLink own idx "SelfScale$Worlds" "leftByLaughs" "LSelfScale$Row;" ∈ BIG) (hd : decode cc pc = .ok (.putfield idx, 3)) (k : JC E X Q ws2 cn sn (pc + 3) lv st) : JC E X Q ws cn sn pc lv (.ref x :: .ref a :: st) := by
  subst ho
  rcases X with ⟨p, l, e, R, s, m, args, below, meth, c, n0, A, z1, z2⟩
  obtain ⟨hx, hb, hml, hn0, hown, hts, hK, hlocks, hl9, hd1, hd2, hd3, hd4, hA⟩ := hF
  intro H locs ls hP hD hS hl
  subst hw2
  exact va_putF (v := .ref x) (ty := .object "SelfScale$Row") (C := RX8) (T := TX8) (N := 11) hx hb hts inX8 tyX8 tyX8_ok nmX8 hown hK hP hD hS q0 he rfl 5 (by decide) (hts _ hw) (fun _ h => h) rfl hi.1 rfl (by decide +kernel) rfl rfl hl0 hd (fun H1 locs1 hP hD hS => k H1 locs1 ls hP hD hS hl)
theorem jg8_5 {E : En} {X : Cx} {Q : State → Prop} {ws : va_W} {cn sn : Nat} {cc : ByteArray} {own : String} {nL d mc ms pc : Nat} {lv : List (Nat × Value)} {st : List Value} (hF : Fc E X cc own nL d mc ms) {q0 a idx x : Nat} {fs : List Value} (he : ws[q0]? = some (a, .inr (8, fs))) (hv : fs[5]? = some (.ref x)) (hw : Cond.fieldLink own idx "SelfScale$Worlds" "leftByLaughs" "LSelfScale$Row;" ∈ BIG) (hd : decode cc pc = .ok (.getfield idx, 3)) (k : JC E X Q ws cn sn (pc + 3) lv (.ref x :: st)) : JC E X Q ws cn sn pc lv (.ref a :: st) := by
  rcases X with ⟨p, l, e, R, s, m, args, below, meth, c, n0, A, z1, z2⟩
  obtain ⟨hx, hb, hml, hn0, hown, hts, hK, hlocks, hl0, hd1, hd2, hd3, hd4, hA⟩ := hF
  intro H locs ls hP hD hS hl
  exact va_get (C := RX8) (T := TX8) (N := 11) hx hb hts inX8 hown hK hP q0 he rfl 5 (by decide) (hts _ hw) (fun _ h => h) hv hd (k H locs ls hP hD hS hl)
theorem jpF8_6 {E : En} {X : Cx} {Q : State → Prop} {ws : va_W} {cn sn : Nat} {cc : ByteArray} {own : String} {nL d mc ms pc : Nat} {lv : List (Nat × Value)} {st : List Value} (hF : Fc E X cc own nL d mc ms) {q0 a idx x : Nat} {fs : List Value} {ws2 : va_W} (hi : Fi X) (ho : own = RX8) (he : ws[q0]? = some (a, .inr (8, fs))) (hl0 : 6 < fs.length) (hw2 : ws.set q0 (a, .inr (8, fs.set 6 (.ref x))) = ws2) (hw : Cond.fieldLink own idx "SelfScale$Worlds" "laughedByLaughs" "LSelfScale$Row;" ∈ BIG) (hd : decode cc pc = .ok (.putfield idx, 3)) (k : JC E X Q ws2 cn sn (pc + 3) lv st) : JC E X Q ws cn sn pc lv (.ref x :: .ref a :: st) := by
  subst ho
  rcases X with ⟨p, l, e, R, s, m, args, below, meth, c, n0, A, z1, z2⟩
  obtain ⟨hx, hb, hml, hn0, hown, hts, hK, hlocks, hl9, hd1, hd2, hd3, hd4, hA⟩ := hF
  intro H locs ls hP hD hS hl
  subst hw2
  exact va_putF (v := .ref x) (ty := .object "SelfScale$Row") (C := RX8) (T := TX8) (N := 11) hx hb hts inX8 tyX8 tyX8_ok nmX8 hown hK hP hD hS q0 he rfl 6 (by decide) (hts _ hw) (fun _ h => h) rfl hi.1 rfl (by decide +kernel) rfl rfl hl0 hd (fun H1 locs1 hP hD hS => k H1 locs1 ls hP hD hS hl)
theorem jg8_6 {E : En} {X : Cx} {Q : State → Prop} {ws : va_W} {cn sn : Nat} {cc : ByteArray} {own : String} {nL d mc ms pc : Nat} {lv : List (Nat × Value)} {st : List Value} (hF : Fc E X cc own nL d mc ms) {q0 a idx x : Nat} {fs : List Value} (he : ws[q0]? = some (a, .inr (8, fs))) (hv : fs[6]? = some (.ref x)) (hw : Cond.fieldLink own idx "SelfScale$Worlds" "laughedByLaughs" "LSelfScale$Row;" ∈ BIG) (hd : decode cc pc = .ok (.getfield idx, 3)) (k : JC E X Q ws cn sn (pc + 3) lv (.ref x :: st)) : JC E X Q ws cn sn pc lv (.ref a :: st) := by
  rcases X with ⟨p, l, e, R, s, m, args, below, meth, c, n0, A, z1, z2⟩
  obtain ⟨hx, hb, hml, hn0, hown, hts, hK, hlocks, hl0, hd1, hd2, hd3, hd4, hA⟩ := hF
  intro H locs ls hP hD hS hl
  exact va_get (C := RX8) (T := TX8) (N := 11) hx hb hts inX8 hown hK hP q0 he rfl 6 (by decide) (hts _ hw) (fun _ h => h) hv hd (k H locs ls hP hD hS hl)
theorem jn9 {E : En} {X : Cx} {Q : State → Prop} {ws : va_W} {cn sn : Nat} {cc : ByteArray} {own : String} {nL d mc ms pc : Nat} {lv : List (Nat × Value)} {st : List Value} (hF : Fc E X cc own nL d mc ms) {idx : Nat} (wl : Cond.classLink own idx RX9 ∈ BIG) (hc1 : cn + 1 ≤ mc) (hs1 : sn + 9 ≤ ms) (hd : decode cc pc = .ok (.new idx, 3)) (k : ∀ q : Nat, JC E X Q (ws ++ [(q, .inr (9, [.null, .null, .null, .null, .null, .null, .null, .null, .null]))]) (cn + 1) (sn + 9) (pc + 3) lv (.ref q :: st)) : JC E X Q ws cn sn pc lv st := by
  rcases X with ⟨p, l, e, R, s, m, args, below, meth, c, n0, A, z1, z2⟩
  obtain ⟨hx, hb, hml, hn0, hown, hts, hK, hlocks, hl0, hd1, hd2, hd3, hd4, hA⟩ := hF
  intro H locs ls hP hD hS hl
  exact va_new (ci := 9) (fs := [.null, .null, .null, .null, .null, .null, .null, .null, .null]) (C := RX9) (T := TX9) (N := 9) hx hb hts inX9 tyX9 tyX9_ok hown (hts _ wl) (hts _ bw_1_19) (hts _ bw_1_1) hK hP hD hS hA rfl (fun j hj => by rcases (show j = 0 ∨ j = 1 ∨ j = 2 ∨ j = 3 ∨ j = 4 ∨ j = 5 ∨ j = 6 ∨ j = 7 ∨ j = 8 by omega) with rfl | rfl | rfl | rfl | rfl | rfl | rfl | rfl | rfl <;> rfl) (by omega) (by omega) hd (fun q H1 hP hD hS => k q H1 locs ls hP hD hS hl)
theorem jpF9_0 {E : En} {X : Cx} {Q : State → Prop} {ws : va_W} {cn sn : Nat} {cc : ByteArray} {own : String} {nL d mc ms pc : Nat} {lv : List (Nat × Value)} {st : List Value} (hF : Fc E X cc own nL d mc ms) {q0 a idx x : Nat} {fs : List Value} {ws2 : va_W} (hi : Fi X) (ho : own = RX9) (he : ws[q0]? = some (a, .inr (9, fs))) (hl0 : 0 < fs.length) (hw2 : ws.set q0 (a, .inr (9, fs.set 0 (.ref x))) = ws2) (hw : Cond.fieldLink own idx "SelfScale" "text" "LSelfScale$Text;" ∈ BIG) (hd : decode cc pc = .ok (.putfield idx, 3)) (k : JC E X Q ws2 cn sn (pc + 3) lv st) : JC E X Q ws cn sn pc lv (.ref x :: .ref a :: st) := by
  subst ho
  rcases X with ⟨p, l, e, R, s, m, args, below, meth, c, n0, A, z1, z2⟩
  obtain ⟨hx, hb, hml, hn0, hown, hts, hK, hlocks, hl9, hd1, hd2, hd3, hd4, hA⟩ := hF
  intro H locs ls hP hD hS hl
  subst hw2
  exact va_putF (v := .ref x) (ty := .object "SelfScale$Text") (C := RX9) (T := TX9) (N := 9) hx hb hts inX9 tyX9 tyX9_ok nmX9 hown hK hP hD hS q0 he rfl 0 (by decide) (hts _ hw) (fun _ h => h) rfl hi.1 rfl (by decide +kernel) rfl rfl hl0 hd (fun H1 locs1 hP hD hS => k H1 locs1 ls hP hD hS hl)
theorem jg9_0 {E : En} {X : Cx} {Q : State → Prop} {ws : va_W} {cn sn : Nat} {cc : ByteArray} {own : String} {nL d mc ms pc : Nat} {lv : List (Nat × Value)} {st : List Value} (hF : Fc E X cc own nL d mc ms) {q0 a idx x : Nat} {fs : List Value} (he : ws[q0]? = some (a, .inr (9, fs))) (hv : fs[0]? = some (.ref x)) (hw : Cond.fieldLink own idx "SelfScale" "text" "LSelfScale$Text;" ∈ BIG) (hd : decode cc pc = .ok (.getfield idx, 3)) (k : JC E X Q ws cn sn (pc + 3) lv (.ref x :: st)) : JC E X Q ws cn sn pc lv (.ref a :: st) := by
  rcases X with ⟨p, l, e, R, s, m, args, below, meth, c, n0, A, z1, z2⟩
  obtain ⟨hx, hb, hml, hn0, hown, hts, hK, hlocks, hl0, hd1, hd2, hd3, hd4, hA⟩ := hF
  intro H locs ls hP hD hS hl
  exact va_get (C := RX9) (T := TX9) (N := 9) hx hb hts inX9 hown hK hP q0 he rfl 0 (by decide) (hts _ hw) (fun _ h => h) hv hd (k H locs ls hP hD hS hl)
theorem jpF9_1 {E : En} {X : Cx} {Q : State → Prop} {ws : va_W} {cn sn : Nat} {cc : ByteArray} {own : String} {nL d mc ms pc : Nat} {lv : List (Nat × Value)} {st : List Value} (hF : Fc E X cc own nL d mc ms) {q0 a idx x : Nat} {fs : List Value} {ws2 : va_W} (hi : Fi X) (ho : own = RX9) (he : ws[q0]? = some (a, .inr (9, fs))) (hl0 : 1 < fs.length) (hw2 : ws.set q0 (a, .inr (9, fs.set 1 (.ref x))) = ws2) (hw : Cond.fieldLink own idx "SelfScale" "reader" "LSelfScale$Reader;" ∈ BIG) (hd : decode cc pc = .ok (.putfield idx, 3)) (k : JC E X Q ws2 cn sn (pc + 3) lv st) : JC E X Q ws cn sn pc lv (.ref x :: .ref a :: st) := by
  subst ho
  rcases X with ⟨p, l, e, R, s, m, args, below, meth, c, n0, A, z1, z2⟩
  obtain ⟨hx, hb, hml, hn0, hown, hts, hK, hlocks, hl9, hd1, hd2, hd3, hd4, hA⟩ := hF
  intro H locs ls hP hD hS hl
  subst hw2
  exact va_putF (v := .ref x) (ty := .object "SelfScale$Reader") (C := RX9) (T := TX9) (N := 9) hx hb hts inX9 tyX9 tyX9_ok nmX9 hown hK hP hD hS q0 he rfl 1 (by decide) (hts _ hw) (fun _ h => h) rfl hi.1 rfl (by decide +kernel) rfl rfl hl0 hd (fun H1 locs1 hP hD hS => k H1 locs1 ls hP hD hS hl)
theorem jg9_1 {E : En} {X : Cx} {Q : State → Prop} {ws : va_W} {cn sn : Nat} {cc : ByteArray} {own : String} {nL d mc ms pc : Nat} {lv : List (Nat × Value)} {st : List Value} (hF : Fc E X cc own nL d mc ms) {q0 a idx x : Nat} {fs : List Value} (he : ws[q0]? = some (a, .inr (9, fs))) (hv : fs[1]? = some (.ref x)) (hw : Cond.fieldLink own idx "SelfScale" "reader" "LSelfScale$Reader;" ∈ BIG) (hd : decode cc pc = .ok (.getfield idx, 3)) (k : JC E X Q ws cn sn (pc + 3) lv (.ref x :: st)) : JC E X Q ws cn sn pc lv (.ref a :: st) := by
  rcases X with ⟨p, l, e, R, s, m, args, below, meth, c, n0, A, z1, z2⟩
  obtain ⟨hx, hb, hml, hn0, hown, hts, hK, hlocks, hl0, hd1, hd2, hd3, hd4, hA⟩ := hF
  intro H locs ls hP hD hS hl
  exact va_get (C := RX9) (T := TX9) (N := 9) hx hb hts inX9 hown hK hP q0 he rfl 1 (by decide) (hts _ hw) (fun _ h => h) hv hd (k H locs ls hP hD hS hl)
theorem jpF9_2 {E : En} {X : Cx} {Q : State → Prop} {ws : va_W} {cn sn : Nat} {cc : ByteArray} {own : String} {nL d mc ms pc : Nat} {lv : List (Nat × Value)} {st : List Value} (hF : Fc E X cc own nL d mc ms) {q0 a idx x : Nat} {fs : List Value} {ws2 : va_W} (hi : Fi X) (ho : own = RX9) (he : ws[q0]? = some (a, .inr (9, fs))) (hl0 : 2 < fs.length) (hw2 : ws.set q0 (a, .inr (9, fs.set 2 (.ref x))) = ws2) (hw : Cond.fieldLink own idx "SelfScale" "scale" "LSelfScale$Scale;" ∈ BIG) (hd : decode cc pc = .ok (.putfield idx, 3)) (k : JC E X Q ws2 cn sn (pc + 3) lv st) : JC E X Q ws cn sn pc lv (.ref x :: .ref a :: st) := by
  subst ho
  rcases X with ⟨p, l, e, R, s, m, args, below, meth, c, n0, A, z1, z2⟩
  obtain ⟨hx, hb, hml, hn0, hown, hts, hK, hlocks, hl9, hd1, hd2, hd3, hd4, hA⟩ := hF
  intro H locs ls hP hD hS hl
  subst hw2
  exact va_putF (v := .ref x) (ty := .object "SelfScale$Scale") (C := RX9) (T := TX9) (N := 9) hx hb hts inX9 tyX9 tyX9_ok nmX9 hown hK hP hD hS q0 he rfl 2 (by decide) (hts _ hw) (fun _ h => h) rfl hi.1 rfl (by decide +kernel) rfl rfl hl0 hd (fun H1 locs1 hP hD hS => k H1 locs1 ls hP hD hS hl)
theorem jg9_2 {E : En} {X : Cx} {Q : State → Prop} {ws : va_W} {cn sn : Nat} {cc : ByteArray} {own : String} {nL d mc ms pc : Nat} {lv : List (Nat × Value)} {st : List Value} (hF : Fc E X cc own nL d mc ms) {q0 a idx x : Nat} {fs : List Value} (he : ws[q0]? = some (a, .inr (9, fs))) (hv : fs[2]? = some (.ref x)) (hw : Cond.fieldLink own idx "SelfScale" "scale" "LSelfScale$Scale;" ∈ BIG) (hd : decode cc pc = .ok (.getfield idx, 3)) (k : JC E X Q ws cn sn (pc + 3) lv (.ref x :: st)) : JC E X Q ws cn sn pc lv (.ref a :: st) := by
  rcases X with ⟨p, l, e, R, s, m, args, below, meth, c, n0, A, z1, z2⟩
  obtain ⟨hx, hb, hml, hn0, hown, hts, hK, hlocks, hl0, hd1, hd2, hd3, hd4, hA⟩ := hF
  intro H locs ls hP hD hS hl
  exact va_get (C := RX9) (T := TX9) (N := 9) hx hb hts inX9 hown hK hP q0 he rfl 2 (by decide) (hts _ hw) (fun _ h => h) hv hd (k H locs ls hP hD hS hl)
theorem jpF9_3 {E : En} {X : Cx} {Q : State → Prop} {ws : va_W} {cn sn : Nat} {cc : ByteArray} {own : String} {nL d mc ms pc : Nat} {lv : List (Nat × Value)} {st : List Value} (hF : Fc E X cc own nL d mc ms) {q0 a idx x : Nat} {fs : List Value} {ws2 : va_W} (hi : Fi X) (ho : own = RX9) (he : ws[q0]? = some (a, .inr (9, fs))) (hl0 : 3 < fs.length) (hw2 : ws.set q0 (a, .inr (9, fs.set 3 (.ref x))) = ws2) (hw : Cond.fieldLink own idx "SelfScale" "book" "LSelfScale$Book;" ∈ BIG) (hd : decode cc pc = .ok (.putfield idx, 3)) (k : JC E X Q ws2 cn sn (pc + 3) lv st) : JC E X Q ws cn sn pc lv (.ref x :: .ref a :: st) := by
  subst ho
  rcases X with ⟨p, l, e, R, s, m, args, below, meth, c, n0, A, z1, z2⟩
  obtain ⟨hx, hb, hml, hn0, hown, hts, hK, hlocks, hl9, hd1, hd2, hd3, hd4, hA⟩ := hF
  intro H locs ls hP hD hS hl
  subst hw2
  exact va_putF (v := .ref x) (ty := .object "SelfScale$Book") (C := RX9) (T := TX9) (N := 9) hx hb hts inX9 tyX9 tyX9_ok nmX9 hown hK hP hD hS q0 he rfl 3 (by decide) (hts _ hw) (fun _ h => h) rfl hi.1 rfl (by decide +kernel) rfl rfl hl0 hd (fun H1 locs1 hP hD hS => k H1 locs1 ls hP hD hS hl)
theorem jg9_3 {E : En} {X : Cx} {Q : State → Prop} {ws : va_W} {cn sn : Nat} {cc : ByteArray} {own : String} {nL d mc ms pc : Nat} {lv : List (Nat × Value)} {st : List Value} (hF : Fc E X cc own nL d mc ms) {q0 a idx x : Nat} {fs : List Value} (he : ws[q0]? = some (a, .inr (9, fs))) (hv : fs[3]? = some (.ref x)) (hw : Cond.fieldLink own idx "SelfScale" "book" "LSelfScale$Book;" ∈ BIG) (hd : decode cc pc = .ok (.getfield idx, 3)) (k : JC E X Q ws cn sn (pc + 3) lv (.ref x :: st)) : JC E X Q ws cn sn pc lv (.ref a :: st) := by
  rcases X with ⟨p, l, e, R, s, m, args, below, meth, c, n0, A, z1, z2⟩
  obtain ⟨hx, hb, hml, hn0, hown, hts, hK, hlocks, hl0, hd1, hd2, hd3, hd4, hA⟩ := hF
  intro H locs ls hP hD hS hl
  exact va_get (C := RX9) (T := TX9) (N := 9) hx hb hts inX9 hown hK hP q0 he rfl 3 (by decide) (hts _ hw) (fun _ h => h) hv hd (k H locs ls hP hD hS hl)
theorem jpF9_4 {E : En} {X : Cx} {Q : State → Prop} {ws : va_W} {cn sn : Nat} {cc : ByteArray} {own : String} {nL d mc ms pc : Nat} {lv : List (Nat × Value)} {st : List Value} (hF : Fc E X cc own nL d mc ms) {q0 a idx x : Nat} {fs : List Value} {ws2 : va_W} (hi : Fi X) (ho : own = RX9) (he : ws[q0]? = some (a, .inr (9, fs))) (hl0 : 4 < fs.length) (hw2 : ws.set q0 (a, .inr (9, fs.set 4 (.ref x))) = ws2) (hw : Cond.fieldLink own idx "SelfScale" "firstImage" "LSelfScale$Image;" ∈ BIG) (hd : decode cc pc = .ok (.putfield idx, 3)) (k : JC E X Q ws2 cn sn (pc + 3) lv st) : JC E X Q ws cn sn pc lv (.ref x :: .ref a :: st) := by
  subst ho
  rcases X with ⟨p, l, e, R, s, m, args, below, meth, c, n0, A, z1, z2⟩
  obtain ⟨hx, hb, hml, hn0, hown, hts, hK, hlocks, hl9, hd1, hd2, hd3, hd4, hA⟩ := hF
  intro H locs ls hP hD hS hl
  subst hw2
  exact va_putF (v := .ref x) (ty := .object "SelfScale$Image") (C := RX9) (T := TX9) (N := 9) hx hb hts inX9 tyX9 tyX9_ok nmX9 hown hK hP hD hS q0 he rfl 4 (by decide) (hts _ hw) (fun _ h => h) rfl hi.1 rfl (by decide +kernel) rfl rfl hl0 hd (fun H1 locs1 hP hD hS => k H1 locs1 ls hP hD hS hl)
theorem jg9_4 {E : En} {X : Cx} {Q : State → Prop} {ws : va_W} {cn sn : Nat} {cc : ByteArray} {own : String} {nL d mc ms pc : Nat} {lv : List (Nat × Value)} {st : List Value} (hF : Fc E X cc own nL d mc ms) {q0 a idx x : Nat} {fs : List Value} (he : ws[q0]? = some (a, .inr (9, fs))) (hv : fs[4]? = some (.ref x)) (hw : Cond.fieldLink own idx "SelfScale" "firstImage" "LSelfScale$Image;" ∈ BIG) (hd : decode cc pc = .ok (.getfield idx, 3)) (k : JC E X Q ws cn sn (pc + 3) lv (.ref x :: st)) : JC E X Q ws cn sn pc lv (.ref a :: st) := by
  rcases X with ⟨p, l, e, R, s, m, args, below, meth, c, n0, A, z1, z2⟩
  obtain ⟨hx, hb, hml, hn0, hown, hts, hK, hlocks, hl0, hd1, hd2, hd3, hd4, hA⟩ := hF
  intro H locs ls hP hD hS hl
  exact va_get (C := RX9) (T := TX9) (N := 9) hx hb hts inX9 hown hK hP q0 he rfl 4 (by decide) (hts _ hw) (fun _ h => h) hv hd (k H locs ls hP hD hS hl)
theorem jpF9_5 {E : En} {X : Cx} {Q : State → Prop} {ws : va_W} {cn sn : Nat} {cc : ByteArray} {own : String} {nL d mc ms pc : Nat} {lv : List (Nat × Value)} {st : List Value} (hF : Fc E X cc own nL d mc ms) {q0 a idx x : Nat} {fs : List Value} {ws2 : va_W} (hi : Fi X) (ho : own = RX9) (he : ws[q0]? = some (a, .inr (9, fs))) (hl0 : 5 < fs.length) (hw2 : ws.set q0 (a, .inr (9, fs.set 5 (.ref x))) = ws2) (hw : Cond.fieldLink own idx "SelfScale" "secondImage" "LSelfScale$Image;" ∈ BIG) (hd : decode cc pc = .ok (.putfield idx, 3)) (k : JC E X Q ws2 cn sn (pc + 3) lv st) : JC E X Q ws cn sn pc lv (.ref x :: .ref a :: st) := by
  subst ho
  rcases X with ⟨p, l, e, R, s, m, args, below, meth, c, n0, A, z1, z2⟩
  obtain ⟨hx, hb, hml, hn0, hown, hts, hK, hlocks, hl9, hd1, hd2, hd3, hd4, hA⟩ := hF
  intro H locs ls hP hD hS hl
  subst hw2
  exact va_putF (v := .ref x) (ty := .object "SelfScale$Image") (C := RX9) (T := TX9) (N := 9) hx hb hts inX9 tyX9 tyX9_ok nmX9 hown hK hP hD hS q0 he rfl 5 (by decide) (hts _ hw) (fun _ h => h) rfl hi.1 rfl (by decide +kernel) rfl rfl hl0 hd (fun H1 locs1 hP hD hS => k H1 locs1 ls hP hD hS hl)
theorem jg9_5 {E : En} {X : Cx} {Q : State → Prop} {ws : va_W} {cn sn : Nat} {cc : ByteArray} {own : String} {nL d mc ms pc : Nat} {lv : List (Nat × Value)} {st : List Value} (hF : Fc E X cc own nL d mc ms) {q0 a idx x : Nat} {fs : List Value} (he : ws[q0]? = some (a, .inr (9, fs))) (hv : fs[5]? = some (.ref x)) (hw : Cond.fieldLink own idx "SelfScale" "secondImage" "LSelfScale$Image;" ∈ BIG) (hd : decode cc pc = .ok (.getfield idx, 3)) (k : JC E X Q ws cn sn (pc + 3) lv (.ref x :: st)) : JC E X Q ws cn sn pc lv (.ref a :: st) := by
  rcases X with ⟨p, l, e, R, s, m, args, below, meth, c, n0, A, z1, z2⟩
  obtain ⟨hx, hb, hml, hn0, hown, hts, hK, hlocks, hl0, hd1, hd2, hd3, hd4, hA⟩ := hF
  intro H locs ls hP hD hS hl
  exact va_get (C := RX9) (T := TX9) (N := 9) hx hb hts inX9 hown hK hP q0 he rfl 5 (by decide) (hts _ hw) (fun _ h => h) hv hd (k H locs ls hP hD hS hl)
theorem jpF9_6 {E : En} {X : Cx} {Q : State → Prop} {ws : va_W} {cn sn : Nat} {cc : ByteArray} {own : String} {nL d mc ms pc : Nat} {lv : List (Nat × Value)} {st : List Value} (hF : Fc E X cc own nL d mc ms) {q0 a idx x : Nat} {fs : List Value} {ws2 : va_W} (hi : Fi X) (ho : own = RX9) (he : ws[q0]? = some (a, .inr (9, fs))) (hl0 : 6 < fs.length) (hw2 : ws.set q0 (a, .inr (9, fs.set 6 (.ref x))) = ws2) (hw : Cond.fieldLink own idx "SelfScale" "kinds" "LSelfScale$Kinds;" ∈ BIG) (hd : decode cc pc = .ok (.putfield idx, 3)) (k : JC E X Q ws2 cn sn (pc + 3) lv st) : JC E X Q ws cn sn pc lv (.ref x :: .ref a :: st) := by
  subst ho
  rcases X with ⟨p, l, e, R, s, m, args, below, meth, c, n0, A, z1, z2⟩
  obtain ⟨hx, hb, hml, hn0, hown, hts, hK, hlocks, hl9, hd1, hd2, hd3, hd4, hA⟩ := hF
  intro H locs ls hP hD hS hl
  subst hw2
  exact va_putF (v := .ref x) (ty := .object "SelfScale$Kinds") (C := RX9) (T := TX9) (N := 9) hx hb hts inX9 tyX9 tyX9_ok nmX9 hown hK hP hD hS q0 he rfl 6 (by decide) (hts _ hw) (fun _ h => h) rfl hi.1 rfl (by decide +kernel) rfl rfl hl0 hd (fun H1 locs1 hP hD hS => k H1 locs1 ls hP hD hS hl)
theorem jg9_6 {E : En} {X : Cx} {Q : State → Prop} {ws : va_W} {cn sn : Nat} {cc : ByteArray} {own : String} {nL d mc ms pc : Nat} {lv : List (Nat × Value)} {st : List Value} (hF : Fc E X cc own nL d mc ms) {q0 a idx x : Nat} {fs : List Value} (he : ws[q0]? = some (a, .inr (9, fs))) (hv : fs[6]? = some (.ref x)) (hw : Cond.fieldLink own idx "SelfScale" "kinds" "LSelfScale$Kinds;" ∈ BIG) (hd : decode cc pc = .ok (.getfield idx, 3)) (k : JC E X Q ws cn sn (pc + 3) lv (.ref x :: st)) : JC E X Q ws cn sn pc lv (.ref a :: st) := by
  rcases X with ⟨p, l, e, R, s, m, args, below, meth, c, n0, A, z1, z2⟩
  obtain ⟨hx, hb, hml, hn0, hown, hts, hK, hlocks, hl0, hd1, hd2, hd3, hd4, hA⟩ := hF
  intro H locs ls hP hD hS hl
  exact va_get (C := RX9) (T := TX9) (N := 9) hx hb hts inX9 hown hK hP q0 he rfl 6 (by decide) (hts _ hw) (fun _ h => h) hv hd (k H locs ls hP hD hS hl)
theorem jpF9_7 {E : En} {X : Cx} {Q : State → Prop} {ws : va_W} {cn sn : Nat} {cc : ByteArray} {own : String} {nL d mc ms pc : Nat} {lv : List (Nat × Value)} {st : List Value} (hF : Fc E X cc own nL d mc ms) {q0 a idx x : Nat} {fs : List Value} {ws2 : va_W} (hi : Fi X) (ho : own = RX9) (he : ws[q0]? = some (a, .inr (9, fs))) (hl0 : 7 < fs.length) (hw2 : ws.set q0 (a, .inr (9, fs.set 7 (.ref x))) = ws2) (hw : Cond.fieldLink own idx "SelfScale" "worlds" "LSelfScale$Worlds;" ∈ BIG) (hd : decode cc pc = .ok (.putfield idx, 3)) (k : JC E X Q ws2 cn sn (pc + 3) lv st) : JC E X Q ws cn sn pc lv (.ref x :: .ref a :: st) := by
  subst ho
  rcases X with ⟨p, l, e, R, s, m, args, below, meth, c, n0, A, z1, z2⟩
  obtain ⟨hx, hb, hml, hn0, hown, hts, hK, hlocks, hl9, hd1, hd2, hd3, hd4, hA⟩ := hF
  intro H locs ls hP hD hS hl
  subst hw2
  exact va_putF (v := .ref x) (ty := .object "SelfScale$Worlds") (C := RX9) (T := TX9) (N := 9) hx hb hts inX9 tyX9 tyX9_ok nmX9 hown hK hP hD hS q0 he rfl 7 (by decide) (hts _ hw) (fun _ h => h) rfl hi.1 rfl (by decide +kernel) rfl rfl hl0 hd (fun H1 locs1 hP hD hS => k H1 locs1 ls hP hD hS hl)
theorem jg9_7 {E : En} {X : Cx} {Q : State → Prop} {ws : va_W} {cn sn : Nat} {cc : ByteArray} {own : String} {nL d mc ms pc : Nat} {lv : List (Nat × Value)} {st : List Value} (hF : Fc E X cc own nL d mc ms) {q0 a idx x : Nat} {fs : List Value} (he : ws[q0]? = some (a, .inr (9, fs))) (hv : fs[7]? = some (.ref x)) (hw : Cond.fieldLink own idx "SelfScale" "worlds" "LSelfScale$Worlds;" ∈ BIG) (hd : decode cc pc = .ok (.getfield idx, 3)) (k : JC E X Q ws cn sn (pc + 3) lv (.ref x :: st)) : JC E X Q ws cn sn pc lv (.ref a :: st) := by
  rcases X with ⟨p, l, e, R, s, m, args, below, meth, c, n0, A, z1, z2⟩
  obtain ⟨hx, hb, hml, hn0, hown, hts, hK, hlocks, hl0, hd1, hd2, hd3, hd4, hA⟩ := hF
  intro H locs ls hP hD hS hl
  exact va_get (C := RX9) (T := TX9) (N := 9) hx hb hts inX9 hown hK hP q0 he rfl 7 (by decide) (hts _ hw) (fun _ h => h) hv hd (k H locs ls hP hD hS hl)
theorem jpF9_8 {E : En} {X : Cx} {Q : State → Prop} {ws : va_W} {cn sn : Nat} {cc : ByteArray} {own : String} {nL d mc ms pc : Nat} {lv : List (Nat × Value)} {st : List Value} (hF : Fc E X cc own nL d mc ms) {q0 a idx x : Nat} {fs : List Value} {ws2 : va_W} (hi : Fi X) (ho : own = RX9) (he : ws[q0]? = some (a, .inr (9, fs))) (hl0 : 8 < fs.length) (hw2 : ws.set q0 (a, .inr (9, fs.set 8 (.ref x))) = ws2) (hw : Cond.fieldLink own idx "SelfScale" "plan" "LSelfScale$Plan;" ∈ BIG) (hd : decode cc pc = .ok (.putfield idx, 3)) (k : JC E X Q ws2 cn sn (pc + 3) lv st) : JC E X Q ws cn sn pc lv (.ref x :: .ref a :: st) := by
  subst ho
  rcases X with ⟨p, l, e, R, s, m, args, below, meth, c, n0, A, z1, z2⟩
  obtain ⟨hx, hb, hml, hn0, hown, hts, hK, hlocks, hl9, hd1, hd2, hd3, hd4, hA⟩ := hF
  intro H locs ls hP hD hS hl
  subst hw2
  exact va_putF (v := .ref x) (ty := .object "SelfScale$Plan") (C := RX9) (T := TX9) (N := 9) hx hb hts inX9 tyX9 tyX9_ok nmX9 hown hK hP hD hS q0 he rfl 8 (by decide) (hts _ hw) (fun _ h => h) rfl hi.1 rfl (by decide +kernel) rfl rfl hl0 hd (fun H1 locs1 hP hD hS => k H1 locs1 ls hP hD hS hl)
theorem jg9_8 {E : En} {X : Cx} {Q : State → Prop} {ws : va_W} {cn sn : Nat} {cc : ByteArray} {own : String} {nL d mc ms pc : Nat} {lv : List (Nat × Value)} {st : List Value} (hF : Fc E X cc own nL d mc ms) {q0 a idx x : Nat} {fs : List Value} (he : ws[q0]? = some (a, .inr (9, fs))) (hv : fs[8]? = some (.ref x)) (hw : Cond.fieldLink own idx "SelfScale" "plan" "LSelfScale$Plan;" ∈ BIG) (hd : decode cc pc = .ok (.getfield idx, 3)) (k : JC E X Q ws cn sn (pc + 3) lv (.ref x :: st)) : JC E X Q ws cn sn pc lv (.ref a :: st) := by
  rcases X with ⟨p, l, e, R, s, m, args, below, meth, c, n0, A, z1, z2⟩
  obtain ⟨hx, hb, hml, hn0, hown, hts, hK, hlocks, hl0, hd1, hd2, hd3, hd4, hA⟩ := hF
  intro H locs ls hP hD hS hl
  exact va_get (C := RX9) (T := TX9) (N := 9) hx hb hts inX9 hown hK hP q0 he rfl 8 (by decide) (hts _ hw) (fun _ h => h) hv hd (k H locs ls hP hD hS hl)
theorem jn10 {E : En} {X : Cx} {Q : State → Prop} {ws : va_W} {cn sn : Nat} {cc : ByteArray} {own : String} {nL d mc ms pc : Nat} {lv : List (Nat × Value)} {st : List Value} (hF : Fc E X cc own nL d mc ms) {idx : Nat} (wl : Cond.classLink own idx RX10 ∈ BIG) (hc1 : cn + 1 ≤ mc) (hs1 : sn + 20 ≤ ms) (hd : decode cc pc = .ok (.new idx, 3)) (k : ∀ q : Nat, JC E X Q (ws ++ [(q, .inr (10, [.long 0, .null, .int 0, .null, .null, .null, .int 0, .int 0, .int 0, .int 0, .int 0, .int 0, .null, .null, .null, .null, .null, .null, .null, .null]))]) (cn + 1) (sn + 20) (pc + 3) lv (.ref q :: st)) : JC E X Q ws cn sn pc lv st := by
  rcases X with ⟨p, l, e, R, s, m, args, below, meth, c, n0, A, z1, z2⟩
  obtain ⟨hx, hb, hml, hn0, hown, hts, hK, hlocks, hl0, hd1, hd2, hd3, hd4, hA⟩ := hF
  intro H locs ls hP hD hS hl
  exact va_new (ci := 10) (fs := [.long 0, .null, .int 0, .null, .null, .null, .int 0, .int 0, .int 0, .int 0, .int 0, .int 0, .null, .null, .null, .null, .null, .null, .null, .null]) (C := RX10) (T := TX10) (N := 20) hx hb hts inX10 tyX10 tyX10_ok hown (hts _ wl) (hts _ bw_4_130) (hts _ bw_1_11) hK hP hD hS hA rfl (fun j hj => by rcases (show j = 0 ∨ j = 1 ∨ j = 2 ∨ j = 3 ∨ j = 4 ∨ j = 5 ∨ j = 6 ∨ j = 7 ∨ j = 8 ∨ j = 9 ∨ j = 10 ∨ j = 11 ∨ j = 12 ∨ j = 13 ∨ j = 14 ∨ j = 15 ∨ j = 16 ∨ j = 17 ∨ j = 18 ∨ j = 19 by omega) with rfl | rfl | rfl | rfl | rfl | rfl | rfl | rfl | rfl | rfl | rfl | rfl | rfl | rfl | rfl | rfl | rfl | rfl | rfl | rfl <;> rfl) (by omega) (by omega) hd (fun q H1 hP hD hS => k q H1 locs ls hP hD hS hl)
theorem jpF10_1 {E : En} {X : Cx} {Q : State → Prop} {ws : va_W} {cn sn : Nat} {cc : ByteArray} {own : String} {nL d mc ms pc : Nat} {lv : List (Nat × Value)} {st : List Value} (hF : Fc E X cc own nL d mc ms) {q0 a idx x : Nat} {fs : List Value} {ws2 : va_W} (hi : Fi X) (ho : own = RX10) (he : ws[q0]? = some (a, .inr (10, fs))) (hl0 : 1 < fs.length) (hw2 : ws.set q0 (a, .inr (10, fs.set 1 (.ref x))) = ws2) (hw : Cond.fieldLink own idx "SelfScaleModel" "text" "[B" ∈ BIG) (hd : decode cc pc = .ok (.putfield idx, 3)) (k : JC E X Q ws2 cn sn (pc + 3) lv st) : JC E X Q ws cn sn pc lv (.ref x :: .ref a :: st) := by
  subst ho
  rcases X with ⟨p, l, e, R, s, m, args, below, meth, c, n0, A, z1, z2⟩
  obtain ⟨hx, hb, hml, hn0, hown, hts, hK, hlocks, hl9, hd1, hd2, hd3, hd4, hA⟩ := hF
  intro H locs ls hP hD hS hl
  subst hw2
  exact va_putF (v := .ref x) (ty := .array .byte) (C := RX10) (T := TX10) (N := 20) hx hb hts inX10 tyX10 tyX10_ok nmX10 hown hK hP hD hS q0 he rfl 1 (by decide) (hts _ hw) (fun _ h => h) rfl hi.1 rfl (by decide +kernel) rfl rfl hl0 hd (fun H1 locs1 hP hD hS => k H1 locs1 ls hP hD hS hl)
theorem jg10_1 {E : En} {X : Cx} {Q : State → Prop} {ws : va_W} {cn sn : Nat} {cc : ByteArray} {own : String} {nL d mc ms pc : Nat} {lv : List (Nat × Value)} {st : List Value} (hF : Fc E X cc own nL d mc ms) {q0 a idx x : Nat} {fs : List Value} (he : ws[q0]? = some (a, .inr (10, fs))) (hv : fs[1]? = some (.ref x)) (hw : Cond.fieldLink own idx "SelfScaleModel" "text" "[B" ∈ BIG) (hd : decode cc pc = .ok (.getfield idx, 3)) (k : JC E X Q ws cn sn (pc + 3) lv (.ref x :: st)) : JC E X Q ws cn sn pc lv (.ref a :: st) := by
  rcases X with ⟨p, l, e, R, s, m, args, below, meth, c, n0, A, z1, z2⟩
  obtain ⟨hx, hb, hml, hn0, hown, hts, hK, hlocks, hl0, hd1, hd2, hd3, hd4, hA⟩ := hF
  intro H locs ls hP hD hS hl
  exact va_get (C := RX10) (T := TX10) (N := 20) hx hb hts inX10 hown hK hP q0 he rfl 1 (by decide) (hts _ hw) (fun _ h => h) hv hd (k H locs ls hP hD hS hl)
theorem jpF10_3 {E : En} {X : Cx} {Q : State → Prop} {ws : va_W} {cn sn : Nat} {cc : ByteArray} {own : String} {nL d mc ms pc : Nat} {lv : List (Nat × Value)} {st : List Value} (hF : Fc E X cc own nL d mc ms) {q0 a idx x : Nat} {fs : List Value} {ws2 : va_W} (hi : Fi X) (ho : own = RX10) (he : ws[q0]? = some (a, .inr (10, fs))) (hl0 : 3 < fs.length) (hw2 : ws.set q0 (a, .inr (10, fs.set 3 (.ref x))) = ws2) (hw : Cond.fieldLink own idx "SelfScaleModel" "things" "[I" ∈ BIG) (hd : decode cc pc = .ok (.putfield idx, 3)) (k : JC E X Q ws2 cn sn (pc + 3) lv st) : JC E X Q ws cn sn pc lv (.ref x :: .ref a :: st) := by
  subst ho
  rcases X with ⟨p, l, e, R, s, m, args, below, meth, c, n0, A, z1, z2⟩
  obtain ⟨hx, hb, hml, hn0, hown, hts, hK, hlocks, hl9, hd1, hd2, hd3, hd4, hA⟩ := hF
  intro H locs ls hP hD hS hl
  subst hw2
  exact va_putF (v := .ref x) (ty := .array .int) (C := RX10) (T := TX10) (N := 20) hx hb hts inX10 tyX10 tyX10_ok nmX10 hown hK hP hD hS q0 he rfl 3 (by decide) (hts _ hw) (fun _ h => h) rfl hi.1 rfl (by decide +kernel) rfl rfl hl0 hd (fun H1 locs1 hP hD hS => k H1 locs1 ls hP hD hS hl)
theorem jg10_3 {E : En} {X : Cx} {Q : State → Prop} {ws : va_W} {cn sn : Nat} {cc : ByteArray} {own : String} {nL d mc ms pc : Nat} {lv : List (Nat × Value)} {st : List Value} (hF : Fc E X cc own nL d mc ms) {q0 a idx x : Nat} {fs : List Value} (he : ws[q0]? = some (a, .inr (10, fs))) (hv : fs[3]? = some (.ref x)) (hw : Cond.fieldLink own idx "SelfScaleModel" "things" "[I" ∈ BIG) (hd : decode cc pc = .ok (.getfield idx, 3)) (k : JC E X Q ws cn sn (pc + 3) lv (.ref x :: st)) : JC E X Q ws cn sn pc lv (.ref a :: st) := by
  rcases X with ⟨p, l, e, R, s, m, args, below, meth, c, n0, A, z1, z2⟩
  obtain ⟨hx, hb, hml, hn0, hown, hts, hK, hlocks, hl0, hd1, hd2, hd3, hd4, hA⟩ := hF
  intro H locs ls hP hD hS hl
  exact va_get (C := RX10) (T := TX10) (N := 20) hx hb hts inX10 hown hK hP q0 he rfl 3 (by decide) (hts _ hw) (fun _ h => h) hv hd (k H locs ls hP hD hS hl)
theorem jpF10_4 {E : En} {X : Cx} {Q : State → Prop} {ws : va_W} {cn sn : Nat} {cc : ByteArray} {own : String} {nL d mc ms pc : Nat} {lv : List (Nat × Value)} {st : List Value} (hF : Fc E X cc own nL d mc ms) {q0 a idx x : Nat} {fs : List Value} {ws2 : va_W} (hi : Fi X) (ho : own = RX10) (he : ws[q0]? = some (a, .inr (10, fs))) (hl0 : 4 < fs.length) (hw2 : ws.set q0 (a, .inr (10, fs.set 4 (.ref x))) = ws2) (hw : Cond.fieldLink own idx "SelfScaleModel" "weights" "[I" ∈ BIG) (hd : decode cc pc = .ok (.putfield idx, 3)) (k : JC E X Q ws2 cn sn (pc + 3) lv st) : JC E X Q ws cn sn pc lv (.ref x :: .ref a :: st) := by
  subst ho
  rcases X with ⟨p, l, e, R, s, m, args, below, meth, c, n0, A, z1, z2⟩
  obtain ⟨hx, hb, hml, hn0, hown, hts, hK, hlocks, hl9, hd1, hd2, hd3, hd4, hA⟩ := hF
  intro H locs ls hP hD hS hl
  subst hw2
  exact va_putF (v := .ref x) (ty := .array .int) (C := RX10) (T := TX10) (N := 20) hx hb hts inX10 tyX10 tyX10_ok nmX10 hown hK hP hD hS q0 he rfl 4 (by decide) (hts _ hw) (fun _ h => h) rfl hi.1 rfl (by decide +kernel) rfl rfl hl0 hd (fun H1 locs1 hP hD hS => k H1 locs1 ls hP hD hS hl)
theorem jg10_4 {E : En} {X : Cx} {Q : State → Prop} {ws : va_W} {cn sn : Nat} {cc : ByteArray} {own : String} {nL d mc ms pc : Nat} {lv : List (Nat × Value)} {st : List Value} (hF : Fc E X cc own nL d mc ms) {q0 a idx x : Nat} {fs : List Value} (he : ws[q0]? = some (a, .inr (10, fs))) (hv : fs[4]? = some (.ref x)) (hw : Cond.fieldLink own idx "SelfScaleModel" "weights" "[I" ∈ BIG) (hd : decode cc pc = .ok (.getfield idx, 3)) (k : JC E X Q ws cn sn (pc + 3) lv (.ref x :: st)) : JC E X Q ws cn sn pc lv (.ref a :: st) := by
  rcases X with ⟨p, l, e, R, s, m, args, below, meth, c, n0, A, z1, z2⟩
  obtain ⟨hx, hb, hml, hn0, hown, hts, hK, hlocks, hl0, hd1, hd2, hd3, hd4, hA⟩ := hF
  intro H locs ls hP hD hS hl
  exact va_get (C := RX10) (T := TX10) (N := 20) hx hb hts inX10 hown hK hP q0 he rfl 4 (by decide) (hts _ hw) (fun _ h => h) hv hd (k H locs ls hP hD hS hl)
theorem jpF10_5 {E : En} {X : Cx} {Q : State → Prop} {ws : va_W} {cn sn : Nat} {cc : ByteArray} {own : String} {nL d mc ms pc : Nat} {lv : List (Nat × Value)} {st : List Value} (hF : Fc E X cc own nL d mc ms) {q0 a idx x : Nat} {fs : List Value} {ws2 : va_W} (hi : Fi X) (ho : own = RX10) (he : ws[q0]? = some (a, .inr (10, fs))) (hl0 : 5 < fs.length) (hw2 : ws.set q0 (a, .inr (10, fs.set 5 (.ref x))) = ws2) (hw : Cond.fieldLink own idx "SelfScaleModel" "figures" "[I" ∈ BIG) (hd : decode cc pc = .ok (.putfield idx, 3)) (k : JC E X Q ws2 cn sn (pc + 3) lv st) : JC E X Q ws cn sn pc lv (.ref x :: .ref a :: st) := by
  subst ho
  rcases X with ⟨p, l, e, R, s, m, args, below, meth, c, n0, A, z1, z2⟩
  obtain ⟨hx, hb, hml, hn0, hown, hts, hK, hlocks, hl9, hd1, hd2, hd3, hd4, hA⟩ := hF
  intro H locs ls hP hD hS hl
  subst hw2
  exact va_putF (v := .ref x) (ty := .array .int) (C := RX10) (T := TX10) (N := 20) hx hb hts inX10 tyX10 tyX10_ok nmX10 hown hK hP hD hS q0 he rfl 5 (by decide) (hts _ hw) (fun _ h => h) rfl hi.1 rfl (by decide +kernel) rfl rfl hl0 hd (fun H1 locs1 hP hD hS => k H1 locs1 ls hP hD hS hl)
theorem jg10_5 {E : En} {X : Cx} {Q : State → Prop} {ws : va_W} {cn sn : Nat} {cc : ByteArray} {own : String} {nL d mc ms pc : Nat} {lv : List (Nat × Value)} {st : List Value} (hF : Fc E X cc own nL d mc ms) {q0 a idx x : Nat} {fs : List Value} (he : ws[q0]? = some (a, .inr (10, fs))) (hv : fs[5]? = some (.ref x)) (hw : Cond.fieldLink own idx "SelfScaleModel" "figures" "[I" ∈ BIG) (hd : decode cc pc = .ok (.getfield idx, 3)) (k : JC E X Q ws cn sn (pc + 3) lv (.ref x :: st)) : JC E X Q ws cn sn pc lv (.ref a :: st) := by
  rcases X with ⟨p, l, e, R, s, m, args, below, meth, c, n0, A, z1, z2⟩
  obtain ⟨hx, hb, hml, hn0, hown, hts, hK, hlocks, hl0, hd1, hd2, hd3, hd4, hA⟩ := hF
  intro H locs ls hP hD hS hl
  exact va_get (C := RX10) (T := TX10) (N := 20) hx hb hts inX10 hown hK hP q0 he rfl 5 (by decide) (hts _ hw) (fun _ h => h) hv hd (k H locs ls hP hD hS hl)
theorem jpF10_12 {E : En} {X : Cx} {Q : State → Prop} {ws : va_W} {cn sn : Nat} {cc : ByteArray} {own : String} {nL d mc ms pc : Nat} {lv : List (Nat × Value)} {st : List Value} (hF : Fc E X cc own nL d mc ms) {q0 a idx x : Nat} {fs : List Value} {ws2 : va_W} (hi : Fi X) (ho : own = RX10) (he : ws[q0]? = some (a, .inr (10, fs))) (hl0 : 12 < fs.length) (hw2 : ws.set q0 (a, .inr (10, fs.set 12 (.ref x))) = ws2) (hw : Cond.fieldLink own idx "SelfScaleModel" "lines" "[I" ∈ BIG) (hd : decode cc pc = .ok (.putfield idx, 3)) (k : JC E X Q ws2 cn sn (pc + 3) lv st) : JC E X Q ws cn sn pc lv (.ref x :: .ref a :: st) := by
  subst ho
  rcases X with ⟨p, l, e, R, s, m, args, below, meth, c, n0, A, z1, z2⟩
  obtain ⟨hx, hb, hml, hn0, hown, hts, hK, hlocks, hl9, hd1, hd2, hd3, hd4, hA⟩ := hF
  intro H locs ls hP hD hS hl
  subst hw2
  exact va_putF (v := .ref x) (ty := .array .int) (C := RX10) (T := TX10) (N := 20) hx hb hts inX10 tyX10 tyX10_ok nmX10 hown hK hP hD hS q0 he rfl 12 (by decide) (hts _ hw) (fun _ h => h) rfl hi.1 rfl (by decide +kernel) rfl rfl hl0 hd (fun H1 locs1 hP hD hS => k H1 locs1 ls hP hD hS hl)
theorem jg10_12 {E : En} {X : Cx} {Q : State → Prop} {ws : va_W} {cn sn : Nat} {cc : ByteArray} {own : String} {nL d mc ms pc : Nat} {lv : List (Nat × Value)} {st : List Value} (hF : Fc E X cc own nL d mc ms) {q0 a idx x : Nat} {fs : List Value} (he : ws[q0]? = some (a, .inr (10, fs))) (hv : fs[12]? = some (.ref x)) (hw : Cond.fieldLink own idx "SelfScaleModel" "lines" "[I" ∈ BIG) (hd : decode cc pc = .ok (.getfield idx, 3)) (k : JC E X Q ws cn sn (pc + 3) lv (.ref x :: st)) : JC E X Q ws cn sn pc lv (.ref a :: st) := by
  rcases X with ⟨p, l, e, R, s, m, args, below, meth, c, n0, A, z1, z2⟩
  obtain ⟨hx, hb, hml, hn0, hown, hts, hK, hlocks, hl0, hd1, hd2, hd3, hd4, hA⟩ := hF
  intro H locs ls hP hD hS hl
  exact va_get (C := RX10) (T := TX10) (N := 20) hx hb hts inX10 hown hK hP q0 he rfl 12 (by decide) (hts _ hw) (fun _ h => h) hv hd (k H locs ls hP hD hS hl)
theorem jpF10_13 {E : En} {X : Cx} {Q : State → Prop} {ws : va_W} {cn sn : Nat} {cc : ByteArray} {own : String} {nL d mc ms pc : Nat} {lv : List (Nat × Value)} {st : List Value} (hF : Fc E X cc own nL d mc ms) {q0 a idx x : Nat} {fs : List Value} {ws2 : va_W} (hi : Fi X) (ho : own = RX10) (he : ws[q0]? = some (a, .inr (10, fs))) (hl0 : 13 < fs.length) (hw2 : ws.set q0 (a, .inr (10, fs.set 13 (.ref x))) = ws2) (hw : Cond.fieldLink own idx "SelfScaleModel" "row" "[I" ∈ BIG) (hd : decode cc pc = .ok (.putfield idx, 3)) (k : JC E X Q ws2 cn sn (pc + 3) lv st) : JC E X Q ws cn sn pc lv (.ref x :: .ref a :: st) := by
  subst ho
  rcases X with ⟨p, l, e, R, s, m, args, below, meth, c, n0, A, z1, z2⟩
  obtain ⟨hx, hb, hml, hn0, hown, hts, hK, hlocks, hl9, hd1, hd2, hd3, hd4, hA⟩ := hF
  intro H locs ls hP hD hS hl
  subst hw2
  exact va_putF (v := .ref x) (ty := .array .int) (C := RX10) (T := TX10) (N := 20) hx hb hts inX10 tyX10 tyX10_ok nmX10 hown hK hP hD hS q0 he rfl 13 (by decide) (hts _ hw) (fun _ h => h) rfl hi.1 rfl (by decide +kernel) rfl rfl hl0 hd (fun H1 locs1 hP hD hS => k H1 locs1 ls hP hD hS hl)
theorem jg10_13 {E : En} {X : Cx} {Q : State → Prop} {ws : va_W} {cn sn : Nat} {cc : ByteArray} {own : String} {nL d mc ms pc : Nat} {lv : List (Nat × Value)} {st : List Value} (hF : Fc E X cc own nL d mc ms) {q0 a idx x : Nat} {fs : List Value} (he : ws[q0]? = some (a, .inr (10, fs))) (hv : fs[13]? = some (.ref x)) (hw : Cond.fieldLink own idx "SelfScaleModel" "row" "[I" ∈ BIG) (hd : decode cc pc = .ok (.getfield idx, 3)) (k : JC E X Q ws cn sn (pc + 3) lv (.ref x :: st)) : JC E X Q ws cn sn pc lv (.ref a :: st) := by
  rcases X with ⟨p, l, e, R, s, m, args, below, meth, c, n0, A, z1, z2⟩
  obtain ⟨hx, hb, hml, hn0, hown, hts, hK, hlocks, hl0, hd1, hd2, hd3, hd4, hA⟩ := hF
  intro H locs ls hP hD hS hl
  exact va_get (C := RX10) (T := TX10) (N := 20) hx hb hts inX10 hown hK hP q0 he rfl 13 (by decide) (hts _ hw) (fun _ h => h) hv hd (k H locs ls hP hD hS hl)
theorem jpF10_14 {E : En} {X : Cx} {Q : State → Prop} {ws : va_W} {cn sn : Nat} {cc : ByteArray} {own : String} {nL d mc ms pc : Nat} {lv : List (Nat × Value)} {st : List Value} (hF : Fc E X cc own nL d mc ms) {q0 a idx x : Nat} {fs : List Value} {ws2 : va_W} (hi : Fi X) (ho : own = RX10) (he : ws[q0]? = some (a, .inr (10, fs))) (hl0 : 14 < fs.length) (hw2 : ws.set q0 (a, .inr (10, fs.set 14 (.ref x))) = ws2) (hw : Cond.fieldLink own idx "SelfScaleModel" "isKept" "[Z" ∈ BIG) (hd : decode cc pc = .ok (.putfield idx, 3)) (k : JC E X Q ws2 cn sn (pc + 3) lv st) : JC E X Q ws cn sn pc lv (.ref x :: .ref a :: st) := by
  subst ho
  rcases X with ⟨p, l, e, R, s, m, args, below, meth, c, n0, A, z1, z2⟩
  obtain ⟨hx, hb, hml, hn0, hown, hts, hK, hlocks, hl9, hd1, hd2, hd3, hd4, hA⟩ := hF
  intro H locs ls hP hD hS hl
  subst hw2
  exact va_putF (v := .ref x) (ty := .array .boolean) (C := RX10) (T := TX10) (N := 20) hx hb hts inX10 tyX10 tyX10_ok nmX10 hown hK hP hD hS q0 he rfl 14 (by decide) (hts _ hw) (fun _ h => h) rfl hi.1 rfl (by decide +kernel) rfl rfl hl0 hd (fun H1 locs1 hP hD hS => k H1 locs1 ls hP hD hS hl)
theorem jg10_14 {E : En} {X : Cx} {Q : State → Prop} {ws : va_W} {cn sn : Nat} {cc : ByteArray} {own : String} {nL d mc ms pc : Nat} {lv : List (Nat × Value)} {st : List Value} (hF : Fc E X cc own nL d mc ms) {q0 a idx x : Nat} {fs : List Value} (he : ws[q0]? = some (a, .inr (10, fs))) (hv : fs[14]? = some (.ref x)) (hw : Cond.fieldLink own idx "SelfScaleModel" "isKept" "[Z" ∈ BIG) (hd : decode cc pc = .ok (.getfield idx, 3)) (k : JC E X Q ws cn sn (pc + 3) lv (.ref x :: st)) : JC E X Q ws cn sn pc lv (.ref a :: st) := by
  rcases X with ⟨p, l, e, R, s, m, args, below, meth, c, n0, A, z1, z2⟩
  obtain ⟨hx, hb, hml, hn0, hown, hts, hK, hlocks, hl0, hd1, hd2, hd3, hd4, hA⟩ := hF
  intro H locs ls hP hD hS hl
  exact va_get (C := RX10) (T := TX10) (N := 20) hx hb hts inX10 hown hK hP q0 he rfl 14 (by decide) (hts _ hw) (fun _ h => h) hv hd (k H locs ls hP hD hS hl)
theorem jpF10_15 {E : En} {X : Cx} {Q : State → Prop} {ws : va_W} {cn sn : Nat} {cc : ByteArray} {own : String} {nL d mc ms pc : Nat} {lv : List (Nat × Value)} {st : List Value} (hF : Fc E X cc own nL d mc ms) {q0 a idx x : Nat} {fs : List Value} {ws2 : va_W} (hi : Fi X) (ho : own = RX10) (he : ws[q0]? = some (a, .inr (10, fs))) (hl0 : 15 < fs.length) (hw2 : ws.set q0 (a, .inr (10, fs.set 15 (.ref x))) = ws2) (hw : Cond.fieldLink own idx "SelfScaleModel" "world" "[I" ∈ BIG) (hd : decode cc pc = .ok (.putfield idx, 3)) (k : JC E X Q ws2 cn sn (pc + 3) lv st) : JC E X Q ws cn sn pc lv (.ref x :: .ref a :: st) := by
  subst ho
  rcases X with ⟨p, l, e, R, s, m, args, below, meth, c, n0, A, z1, z2⟩
  obtain ⟨hx, hb, hml, hn0, hown, hts, hK, hlocks, hl9, hd1, hd2, hd3, hd4, hA⟩ := hF
  intro H locs ls hP hD hS hl
  subst hw2
  exact va_putF (v := .ref x) (ty := .array .int) (C := RX10) (T := TX10) (N := 20) hx hb hts inX10 tyX10 tyX10_ok nmX10 hown hK hP hD hS q0 he rfl 15 (by decide) (hts _ hw) (fun _ h => h) rfl hi.1 rfl (by decide +kernel) rfl rfl hl0 hd (fun H1 locs1 hP hD hS => k H1 locs1 ls hP hD hS hl)
theorem jg10_15 {E : En} {X : Cx} {Q : State → Prop} {ws : va_W} {cn sn : Nat} {cc : ByteArray} {own : String} {nL d mc ms pc : Nat} {lv : List (Nat × Value)} {st : List Value} (hF : Fc E X cc own nL d mc ms) {q0 a idx x : Nat} {fs : List Value} (he : ws[q0]? = some (a, .inr (10, fs))) (hv : fs[15]? = some (.ref x)) (hw : Cond.fieldLink own idx "SelfScaleModel" "world" "[I" ∈ BIG) (hd : decode cc pc = .ok (.getfield idx, 3)) (k : JC E X Q ws cn sn (pc + 3) lv (.ref x :: st)) : JC E X Q ws cn sn pc lv (.ref a :: st) := by
  rcases X with ⟨p, l, e, R, s, m, args, below, meth, c, n0, A, z1, z2⟩
  obtain ⟨hx, hb, hml, hn0, hown, hts, hK, hlocks, hl0, hd1, hd2, hd3, hd4, hA⟩ := hF
  intro H locs ls hP hD hS hl
  exact va_get (C := RX10) (T := TX10) (N := 20) hx hb hts inX10 hown hK hP q0 he rfl 15 (by decide) (hts _ hw) (fun _ h => h) hv hd (k H locs ls hP hD hS hl)
theorem jpF10_16 {E : En} {X : Cx} {Q : State → Prop} {ws : va_W} {cn sn : Nat} {cc : ByteArray} {own : String} {nL d mc ms pc : Nat} {lv : List (Nat × Value)} {st : List Value} (hF : Fc E X cc own nL d mc ms) {q0 a idx x : Nat} {fs : List Value} {ws2 : va_W} (hi : Fi X) (ho : own = RX10) (he : ws[q0]? = some (a, .inr (10, fs))) (hl0 : 16 < fs.length) (hw2 : ws.set q0 (a, .inr (10, fs.set 16 (.ref x))) = ws2) (hw : Cond.fieldLink own idx "SelfScaleModel" "shownMany" "[I" ∈ BIG) (hd : decode cc pc = .ok (.putfield idx, 3)) (k : JC E X Q ws2 cn sn (pc + 3) lv st) : JC E X Q ws cn sn pc lv (.ref x :: .ref a :: st) := by
  subst ho
  rcases X with ⟨p, l, e, R, s, m, args, below, meth, c, n0, A, z1, z2⟩
  obtain ⟨hx, hb, hml, hn0, hown, hts, hK, hlocks, hl9, hd1, hd2, hd3, hd4, hA⟩ := hF
  intro H locs ls hP hD hS hl
  subst hw2
  exact va_putF (v := .ref x) (ty := .array .int) (C := RX10) (T := TX10) (N := 20) hx hb hts inX10 tyX10 tyX10_ok nmX10 hown hK hP hD hS q0 he rfl 16 (by decide) (hts _ hw) (fun _ h => h) rfl hi.1 rfl (by decide +kernel) rfl rfl hl0 hd (fun H1 locs1 hP hD hS => k H1 locs1 ls hP hD hS hl)
theorem jg10_16 {E : En} {X : Cx} {Q : State → Prop} {ws : va_W} {cn sn : Nat} {cc : ByteArray} {own : String} {nL d mc ms pc : Nat} {lv : List (Nat × Value)} {st : List Value} (hF : Fc E X cc own nL d mc ms) {q0 a idx x : Nat} {fs : List Value} (he : ws[q0]? = some (a, .inr (10, fs))) (hv : fs[16]? = some (.ref x)) (hw : Cond.fieldLink own idx "SelfScaleModel" "shownMany" "[I" ∈ BIG) (hd : decode cc pc = .ok (.getfield idx, 3)) (k : JC E X Q ws cn sn (pc + 3) lv (.ref x :: st)) : JC E X Q ws cn sn pc lv (.ref a :: st) := by
  rcases X with ⟨p, l, e, R, s, m, args, below, meth, c, n0, A, z1, z2⟩
  obtain ⟨hx, hb, hml, hn0, hown, hts, hK, hlocks, hl0, hd1, hd2, hd3, hd4, hA⟩ := hF
  intro H locs ls hP hD hS hl
  exact va_get (C := RX10) (T := TX10) (N := 20) hx hb hts inX10 hown hK hP q0 he rfl 16 (by decide) (hts _ hw) (fun _ h => h) hv hd (k H locs ls hP hD hS hl)
theorem jpF10_17 {E : En} {X : Cx} {Q : State → Prop} {ws : va_W} {cn sn : Nat} {cc : ByteArray} {own : String} {nL d mc ms pc : Nat} {lv : List (Nat × Value)} {st : List Value} (hF : Fc E X cc own nL d mc ms) {q0 a idx x : Nat} {fs : List Value} {ws2 : va_W} (hi : Fi X) (ho : own = RX10) (he : ws[q0]? = some (a, .inr (10, fs))) (hl0 : 17 < fs.length) (hw2 : ws.set q0 (a, .inr (10, fs.set 17 (.ref x))) = ws2) (hw : Cond.fieldLink own idx "SelfScaleModel" "seen" "[I" ∈ BIG) (hd : decode cc pc = .ok (.putfield idx, 3)) (k : JC E X Q ws2 cn sn (pc + 3) lv st) : JC E X Q ws cn sn pc lv (.ref x :: .ref a :: st) := by
  subst ho
  rcases X with ⟨p, l, e, R, s, m, args, below, meth, c, n0, A, z1, z2⟩
  obtain ⟨hx, hb, hml, hn0, hown, hts, hK, hlocks, hl9, hd1, hd2, hd3, hd4, hA⟩ := hF
  intro H locs ls hP hD hS hl
  subst hw2
  exact va_putF (v := .ref x) (ty := .array .int) (C := RX10) (T := TX10) (N := 20) hx hb hts inX10 tyX10 tyX10_ok nmX10 hown hK hP hD hS q0 he rfl 17 (by decide) (hts _ hw) (fun _ h => h) rfl hi.1 rfl (by decide +kernel) rfl rfl hl0 hd (fun H1 locs1 hP hD hS => k H1 locs1 ls hP hD hS hl)
theorem jg10_17 {E : En} {X : Cx} {Q : State → Prop} {ws : va_W} {cn sn : Nat} {cc : ByteArray} {own : String} {nL d mc ms pc : Nat} {lv : List (Nat × Value)} {st : List Value} (hF : Fc E X cc own nL d mc ms) {q0 a idx x : Nat} {fs : List Value} (he : ws[q0]? = some (a, .inr (10, fs))) (hv : fs[17]? = some (.ref x)) (hw : Cond.fieldLink own idx "SelfScaleModel" "seen" "[I" ∈ BIG) (hd : decode cc pc = .ok (.getfield idx, 3)) (k : JC E X Q ws cn sn (pc + 3) lv (.ref x :: st)) : JC E X Q ws cn sn pc lv (.ref a :: st) := by
  rcases X with ⟨p, l, e, R, s, m, args, below, meth, c, n0, A, z1, z2⟩
  obtain ⟨hx, hb, hml, hn0, hown, hts, hK, hlocks, hl0, hd1, hd2, hd3, hd4, hA⟩ := hF
  intro H locs ls hP hD hS hl
  exact va_get (C := RX10) (T := TX10) (N := 20) hx hb hts inX10 hown hK hP q0 he rfl 17 (by decide) (hts _ hw) (fun _ h => h) hv hd (k H locs ls hP hD hS hl)
theorem jpF10_18 {E : En} {X : Cx} {Q : State → Prop} {ws : va_W} {cn sn : Nat} {cc : ByteArray} {own : String} {nL d mc ms pc : Nat} {lv : List (Nat × Value)} {st : List Value} (hF : Fc E X cc own nL d mc ms) {q0 a idx x : Nat} {fs : List Value} {ws2 : va_W} (hi : Fi X) (ho : own = RX10) (he : ws[q0]? = some (a, .inr (10, fs))) (hl0 : 18 < fs.length) (hw2 : ws.set q0 (a, .inr (10, fs.set 18 (.ref x))) = ws2) (hw : Cond.fieldLink own idx "SelfScaleModel" "isBad" "[Z" ∈ BIG) (hd : decode cc pc = .ok (.putfield idx, 3)) (k : JC E X Q ws2 cn sn (pc + 3) lv st) : JC E X Q ws cn sn pc lv (.ref x :: .ref a :: st) := by
  subst ho
  rcases X with ⟨p, l, e, R, s, m, args, below, meth, c, n0, A, z1, z2⟩
  obtain ⟨hx, hb, hml, hn0, hown, hts, hK, hlocks, hl9, hd1, hd2, hd3, hd4, hA⟩ := hF
  intro H locs ls hP hD hS hl
  subst hw2
  exact va_putF (v := .ref x) (ty := .array .boolean) (C := RX10) (T := TX10) (N := 20) hx hb hts inX10 tyX10 tyX10_ok nmX10 hown hK hP hD hS q0 he rfl 18 (by decide) (hts _ hw) (fun _ h => h) rfl hi.1 rfl (by decide +kernel) rfl rfl hl0 hd (fun H1 locs1 hP hD hS => k H1 locs1 ls hP hD hS hl)
theorem jg10_18 {E : En} {X : Cx} {Q : State → Prop} {ws : va_W} {cn sn : Nat} {cc : ByteArray} {own : String} {nL d mc ms pc : Nat} {lv : List (Nat × Value)} {st : List Value} (hF : Fc E X cc own nL d mc ms) {q0 a idx x : Nat} {fs : List Value} (he : ws[q0]? = some (a, .inr (10, fs))) (hv : fs[18]? = some (.ref x)) (hw : Cond.fieldLink own idx "SelfScaleModel" "isBad" "[Z" ∈ BIG) (hd : decode cc pc = .ok (.getfield idx, 3)) (k : JC E X Q ws cn sn (pc + 3) lv (.ref x :: st)) : JC E X Q ws cn sn pc lv (.ref a :: st) := by
  rcases X with ⟨p, l, e, R, s, m, args, below, meth, c, n0, A, z1, z2⟩
  obtain ⟨hx, hb, hml, hn0, hown, hts, hK, hlocks, hl0, hd1, hd2, hd3, hd4, hA⟩ := hF
  intro H locs ls hP hD hS hl
  exact va_get (C := RX10) (T := TX10) (N := 20) hx hb hts inX10 hown hK hP q0 he rfl 18 (by decide) (hts _ hw) (fun _ h => h) hv hd (k H locs ls hP hD hS hl)
theorem jpF10_19 {E : En} {X : Cx} {Q : State → Prop} {ws : va_W} {cn sn : Nat} {cc : ByteArray} {own : String} {nL d mc ms pc : Nat} {lv : List (Nat × Value)} {st : List Value} (hF : Fc E X cc own nL d mc ms) {q0 a idx x : Nat} {fs : List Value} {ws2 : va_W} (hi : Fi X) (ho : own = RX10) (he : ws[q0]? = some (a, .inr (10, fs))) (hl0 : 19 < fs.length) (hw2 : ws.set q0 (a, .inr (10, fs.set 19 (.ref x))) = ws2) (hw : Cond.fieldLink own idx "SelfScaleModel" "comes" "[I" ∈ BIG) (hd : decode cc pc = .ok (.putfield idx, 3)) (k : JC E X Q ws2 cn sn (pc + 3) lv st) : JC E X Q ws cn sn pc lv (.ref x :: .ref a :: st) := by
  subst ho
  rcases X with ⟨p, l, e, R, s, m, args, below, meth, c, n0, A, z1, z2⟩
  obtain ⟨hx, hb, hml, hn0, hown, hts, hK, hlocks, hl9, hd1, hd2, hd3, hd4, hA⟩ := hF
  intro H locs ls hP hD hS hl
  subst hw2
  exact va_putF (v := .ref x) (ty := .array .int) (C := RX10) (T := TX10) (N := 20) hx hb hts inX10 tyX10 tyX10_ok nmX10 hown hK hP hD hS q0 he rfl 19 (by decide) (hts _ hw) (fun _ h => h) rfl hi.1 rfl (by decide +kernel) rfl rfl hl0 hd (fun H1 locs1 hP hD hS => k H1 locs1 ls hP hD hS hl)
theorem jg10_19 {E : En} {X : Cx} {Q : State → Prop} {ws : va_W} {cn sn : Nat} {cc : ByteArray} {own : String} {nL d mc ms pc : Nat} {lv : List (Nat × Value)} {st : List Value} (hF : Fc E X cc own nL d mc ms) {q0 a idx x : Nat} {fs : List Value} (he : ws[q0]? = some (a, .inr (10, fs))) (hv : fs[19]? = some (.ref x)) (hw : Cond.fieldLink own idx "SelfScaleModel" "comes" "[I" ∈ BIG) (hd : decode cc pc = .ok (.getfield idx, 3)) (k : JC E X Q ws cn sn (pc + 3) lv (.ref x :: st)) : JC E X Q ws cn sn pc lv (.ref a :: st) := by
  rcases X with ⟨p, l, e, R, s, m, args, below, meth, c, n0, A, z1, z2⟩
  obtain ⟨hx, hb, hml, hn0, hown, hts, hK, hlocks, hl0, hd1, hd2, hd3, hd4, hA⟩ := hF
  intro H locs ls hP hD hS hl
  exact va_get (C := RX10) (T := TX10) (N := 20) hx hb hts inX10 hown hK hP q0 he rfl 19 (by decide) (hts _ hw) (fun _ h => h) hv hd (k H locs ls hP hD hS hl)
theorem jna_int {E : En} {X : Cx} {Q : State → Prop} {ws : va_W} {cn sn : Nat} {cc : ByteArray} {own : String} {nL d mc ms pc : Nat} {lv : List (Nat × Value)} {st : List Value} (hF : Fc E X cc own nL d mc ms) {n : Int32} {n2 : Nat} (hn : ¬ n < 0) (hN : n.toNatClampNeg = n2) (hN2 : n2 ≤ 1000) (hc1 : cn + 1 ≤ mc) (hs1 : sn + n2 ≤ ms) (hd : decode cc pc = .ok (.newarray .int, 2)) (k : ∀ q : Nat, JC E X Q (ws ++ [(q, .inl (eI E, n2, .inl (fun _ => 0)))]) (cn + 1) (sn + n2) (pc + 2) lv (.ref q :: st)) : JC E X Q ws cn sn pc lv (.int n :: st) := by
  rcases X with ⟨p, l, e, R, s, m, args, below, meth, c, n0, A, z1, z2⟩
  obtain ⟨hx, hb, hml, hn0, hown, hts, hK, hlocks, hl0, hd1, hd2, hd3, hd4, hA⟩ := hF
  intro H locs ls hP hD hS hl
  refine va_newa (atype := .int) (ty := .int) (N' := n2) (a0 := (n2, .inl (fun _ => 0))) hx hb (hts _ bw_1_42) rfl hK hP hD hS hA (fun cA => rfl) hn hN (by show n2 * componentBytes .int ≤ _; simp [componentBytes]; omega) (by omega) (by omega) hd (fun q cA H1 hK2 hP hD hS => ?_)
  have e1 := (hK2.2 3 (cA, .int) rfl).2
  have e2 := (hK.2 0 (eI E, .int) rfl).2
  have e3 : cA = eI E := Option.some.inj (Eq.trans (Eq.symm e1) e2)
  subst e3
  exact k q H1 locs ls hP hD hS hl
theorem jna_byte {E : En} {X : Cx} {Q : State → Prop} {ws : va_W} {cn sn : Nat} {cc : ByteArray} {own : String} {nL d mc ms pc : Nat} {lv : List (Nat × Value)} {st : List Value} (hF : Fc E X cc own nL d mc ms) {n : Int32} {n2 : Nat} (hn : ¬ n < 0) (hN : n.toNatClampNeg = n2) (hN2 : n2 ≤ 1000) (hc1 : cn + 1 ≤ mc) (hs1 : sn + n2 ≤ ms) (hd : decode cc pc = .ok (.newarray .byte, 2)) (k : ∀ q : Nat, JC E X Q (ws ++ [(q, .inl (eB E, n2, .inl (fun _ => 0)))]) (cn + 1) (sn + n2) (pc + 2) lv (.ref q :: st)) : JC E X Q ws cn sn pc lv (.int n :: st) := by
  rcases X with ⟨p, l, e, R, s, m, args, below, meth, c, n0, A, z1, z2⟩
  obtain ⟨hx, hb, hml, hn0, hown, hts, hK, hlocks, hl0, hd1, hd2, hd3, hd4, hA⟩ := hF
  intro H locs ls hP hD hS hl
  refine va_newa (atype := .byte) (ty := .byte) (N' := n2) (a0 := (n2, .inl (fun _ => 0))) hx hb (hts _ bw_2_209) rfl hK hP hD hS hA (fun cA => rfl) hn hN (by show n2 * componentBytes .byte ≤ _; simp [componentBytes]; omega) (by omega) (by omega) hd (fun q cA H1 hK2 hP hD hS => ?_)
  have e1 := (hK2.2 3 (cA, .byte) rfl).2
  have e2 := (hK.2 1 (eB E, .byte) rfl).2
  have e3 : cA = eB E := Option.some.inj (Eq.trans (Eq.symm e1) e2)
  subst e3
  exact k q H1 locs ls hP hD hS hl
theorem jna_boolean {E : En} {X : Cx} {Q : State → Prop} {ws : va_W} {cn sn : Nat} {cc : ByteArray} {own : String} {nL d mc ms pc : Nat} {lv : List (Nat × Value)} {st : List Value} (hF : Fc E X cc own nL d mc ms) {n : Int32} {n2 : Nat} (hn : ¬ n < 0) (hN : n.toNatClampNeg = n2) (hN2 : n2 ≤ 1000) (hc1 : cn + 1 ≤ mc) (hs1 : sn + n2 ≤ ms) (hd : decode cc pc = .ok (.newarray .boolean, 2)) (k : ∀ q : Nat, JC E X Q (ws ++ [(q, .inl (eZ E, n2, .inl (fun _ => 0)))]) (cn + 1) (sn + n2) (pc + 2) lv (.ref q :: st)) : JC E X Q ws cn sn pc lv (.int n :: st) := by
  rcases X with ⟨p, l, e, R, s, m, args, below, meth, c, n0, A, z1, z2⟩
  obtain ⟨hx, hb, hml, hn0, hown, hts, hK, hlocks, hl0, hd1, hd2, hd3, hd4, hA⟩ := hF
  intro H locs ls hP hD hS hl
  refine va_newa (atype := .boolean) (ty := .boolean) (N' := n2) (a0 := (n2, .inl (fun _ => 0))) hx hb (hts _ bw_4_196) rfl hK hP hD hS hA (fun cA => rfl) hn hN (by show n2 * componentBytes .boolean ≤ _; simp [componentBytes]; omega) (by omega) (by omega) hd (fun q cA H1 hK2 hP hD hS => ?_)
  have e1 := (hK2.2 3 (cA, .boolean) rfl).2
  have e2 := (hK.2 2 (eZ E, .boolean) rfl).2
  have e3 : cA = eZ E := Option.some.inj (Eq.trans (Eq.symm e1) e2)
  subst e3
  exact k q H1 locs ls hP hD hS hl
theorem jc_iast {E : En} {X : Cx} {Q : State → Prop} {ws : va_W} {cn sn : Nat} {cc : ByteArray} {own : String} {nL d mc ms pc : Nat} {lv : List (Nat × Value)} {st : List Value} (hF : Fc E X cc own nL d mc ms) {q0 a n : Nat} {f : Nat → Int32} {i x : Int32} {ws2 : va_W} (he : ws[q0]? = some (a, .inl (eI E, n, .inl f))) (hin : vp_in i n) (hw2 : ws.set q0 (a, .inl (eI E, n, .inl (upd f i.toNatClampNeg x))) = ws2) (hd : decode cc pc = .ok (.iastore, 1)) (k : JC E X Q ws2 cn sn (pc + 1) lv st) : JC E X Q ws cn sn pc lv (.int x :: .int i :: .ref a :: st) := by
  rcases X with ⟨p, l, e, R, s, m, args, below, meth, c, n0, A, z1, z2⟩
  obtain ⟨hx, hb, hml, hn0, hown, hts, hK, hlocks, hl0, hd1, hd2, hd3, hd4, hA⟩ := hF
  intro H locs ls hP hD hS hl
  subst hw2
  exact va_iast hx hb hK hP hD hS q0 0 he rfl hin hd (fun H1 locs1 hP hD hS => k H1 locs1 ls hP hD hS hl)
theorem jc_ret {E : En} {X : Cx} {Q : State → Prop} {ws ws0 : va_W} {cc : ByteArray} {own : String} {nL d mc ms cn sn pc : Nat} {lv : List (Nat × Value)} {Post : va_W → Prop} (hF : Fc E X cc own nL d mc ms) (hi : Fi X) (hz : ∃ z, X.2.2.2.2.2.2.2.2.2.2.2.1 = va_A ws0 z ∧ X.2.2.2.2.1.heap.size = z) (hQ : Q = CR E X ws0 Post mc ms) (hc1 : cn ≤ mc) (hs1 : sn ≤ ms) (hp : Post ws) (hd : decode cc pc = .ok (.return_, 1)) : JC E X Q ws cn sn pc lv [] := by
  subst hQ
  rcases X with ⟨p, l, e, R, s, m, args, below, meth, c, n0, A, z1, z2⟩
  obtain ⟨z, hz1, hz2⟩ := hz
  dsimp only at hz1 hz2
  subst hz2
  subst hz1
  obtain ⟨hx, hb, hml, hn0, hown, hts, hK, hlocks, hl0, hd1, hd2, hd3, hd4, hA⟩ := hF
  intro H locs ls hP hD hS hl
  refine W.widen (k := mc) (n := ms) hc1 hs1 ?_
  exact W.vret (Qc := CQ E ws0 s.heap.size Post) hx hb hi.2 (fun t ht hW => ⟨rfl, ⟨ws, hp, by rw [ht]; exact hP, hD⟩, hS.F ht⟩) hS.2.2 hd hlocks
theorem CC_blind {E : En} {ws0 : va_W} {sz : Nat} {av : List Value} : FrameBlind (va_Pc av (fun U => U.heap.size = sz ∧ va_P E.2.1 classes ws0 U.heap ∧ va_K E.2.1 classes (en_ty E) U ∧ va_D (fun _ => True) ws0)) := fun a U g mk q => ⟨q.1, q.2.1, q.2.2.1, va_K.moved (u := U) (U := U.calling g mk a) (Vm.Alike.refl U.vm) q.2.2.2.1, q.2.2.2.2⟩
/-- what the tables say of a constructor with n arguments -/
def MI (y : MethodName) (bytes : ByteArray) (maxL : Nat) (n : Nat) : Prop := (y.name = "<init>" ∧ maxL ≤ 13) ∧ (y.cls ≠ "java/lang/invoke/MethodHandle" ∧ y.cls ≠ "java/lang/invoke/VarHandle" ∧ (parseMethodDescriptor y.desc).map (fun d => d.parameters.length) = some n) ∧ Cond.code y bytes maxL none ∈ BIG ∧ Cond.initialized y.cls ∈ BIG ∧ Cond.instanceMethod y ∈ BIG
set_option maxHeartbeats 1000000 in
theorem jc_call {E : En} {X : Cx} {Q : State → Prop} {ws : va_W} {cn sn : Nat} {cc : ByteArray} {own : String} {nL d mc ms pc : Nat} {lv : List (Nat × Value)} {st : List Value} (hF : Fc E X cc own nL d mc ms) {y : MethodName} {bytes : ByteArray} {maxL d2 idx n b mc2 ms2 : Nat} {As st0 : List Value} {wc wr : va_W} {Post : va_W → Prop} (isC isR : List Nat) (e0 : As.reverse ++ .ref b :: st = st0) (hC : isC.map (fun i => ws[i]?) = wc.map some) (hR : isR.map (fun i => ws[i]?) = wr.map some) (hnC : va_nd isC = true) (hnR : va_nd isR = true) (hdis : ∀ i ∈ isR, i ∉ isC) (hm : MI y bytes maxL n) (wl : Cond.methodLink own idx y ∈ BIG) (hn : As.length = n) (hdd : d2 + 1 ≤ d) (hc1 : cn + mc2 ≤ mc) (hs1 : sn + ms2 ≤ ms) (hst : (st.map fun v => v.category).sum ≤ 8) (hd : decode cc pc = .ok (.invokespecial idx, 3)) (hM : CC E y bytes maxL d2 mc2 ms2 (.ref b :: As) wc Post) (kk : ∀ w1, Post w1 → JC E X Q (wr ++ w1) (cn + mc2) (sn + ms2) (pc + 3) lv st) : JC E X Q ws cn sn pc lv st0 := by
  rw [← e0]
  rcases X with ⟨p, l, e, R, s, m, args, below, meth, c, n0, A, z1, z2⟩
  obtain ⟨hx, hb, hml, hn0, hown, hts, hK, hlocks, hl0, hd1, hd2, hd3, hd4, hA⟩ := hF
  intro H locs ls hP hD hS hl
  obtain ⟨⟨hy1, hmx⟩, hy, wc0, wini, wi⟩ := hm
  subst hl0
  subst hn0
  have hPc : va_P E.2.1 classes wc H := hP.sub isC (map_some_filterMap hC)
  have hDc : va_D (fun _ => True) wc := (hD.sub isC hnC hC).weaken (fun _ _ _ _ => trivial)
  have hFc := va_free (wc := wc) hD hS hA isC hC
  have hr := va_runI (As := As) (rest := st) (n := n) (p := p) (l := E.1) (e := e) (R := R) (below := below) (meth := meth) (cells := cn) (slots := sn) (locs := locs) (g := F0 m pc ls (As.reverse ++ .ref b :: st)) ⟨hx, hb, hml, hown, hts⟩ (hM H.size) ⟨callB_of n hts (goodBIG0 wc0) rfl rfl rfl (hts _ wini) (hts _ wl) hy ⟨by show d2 + 1 ≤ _; omega, by show 8 + (maxL + 11) + 32 * d2 ≤ _; omega⟩, hy1, hts _ wi⟩ ⟨CC_blind, fun U hU hW => ⟨rfl, by rw [hU], by rw [hU]; exact hPc, va_K.moved hW.alike hK, hDc⟩⟩ rfl hn hl.1 rfl (by show 2 * 0 + _ ≤ 8; omega) hd ⟨by omega, by omega⟩
  intro T hT X
  obtain ⟨v, st₀, t, T', L, h0, X', hL, e1, e2, ⟨hv, ⟨w1, hp, hP1, hD1⟩, hz, hk⟩, stp⟩ := hr T hT X
  cases hv
  rw [h0] at hz hk
  obtain ⟨hP2, hD2⟩ := va_join (wr := wr) (w1 := w1) (H1 := t.heap) hP hD isC isR hC hR hnR hdis hk hFc hP1 hD1
  obtain ⟨t2, a1, b1⟩ := kk w1 hp T'.heap (locs ++ L) ls (by rw [e1]; exact hP2) hD2 ⟨Nat.le_trans hS.1 (by rw [e1]; exact hz), fun q h1 h2 => by rw [e1, hk q (Nat.lt_of_lt_of_le h1 hS.1) (fun z => h2 (hFc q z))]; exact hS.2.1 q h1 h2, fun q hq => by
      rcases List.mem_append.mp hq with h | h
      · exact hS.2.2 q h
      · exact hFc _ (hL q h)⟩ hl T' rfl X'
  exact ⟨t2, stp t2 a1, b1⟩
