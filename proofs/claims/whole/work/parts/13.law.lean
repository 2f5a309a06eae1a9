/-! THE CLAIM OUT OF ONE WALK OF THE LAW'S BODY. Your part is whole_start (and what it stands on); all else here is the same for every law, but numbers. -/
def R_law : String := "SelfScaleLaw"
def lw_P (b : Addr) (xs : List Int32) (args : Array Value) (s : State) : Prop := args = #[.ref b] ∧ s.IntsAt b xs ∧ xs.length ≤ 320 ∧ (Jvm.Cond.and given_1 narrow_1).before args s = true
def lw_Q (_ : Array Value) (s : State) (o : Outcome) (t : State) : Prop := o = .returned (some (.int 1)) ∧ Framed s o t [] 600000 7302250
def lw_Z (below : List Frame) (a : Array Value) (s : State) : State → Prop := fun t => ∃ o, t.status = .running ∧ Ended t below o ∧ lw_Q a s o t
/-- the law's own end, with 1 on the stack, nothing written that was there before, its room as the claim has it -/
theorem lw_ret {p : Program} {l : Launch} {e : Env} {s : State} {m : MethodId} {below : List Frame} {meth : Method} {c : Code} {b : Nat} (hx : p.tables.exec = Jvm.exec) (hb : c.code = code) (hr : meth.sig.returnType = ret) (hlocks : meth.locks = false) {pc : Nat} {H : Heap} {ls : Array Slot} (hdg : decode code pc = .ok (.ireturn, 1)) : W p l e room_1 s m #[Value.ref b] below meth c H [] 600000 7302250 (lw_Z below #[Value.ref b] s) (F0 m pc ls [.int 1]) := by
  intro T hT X
  obtain ⟨fs, hret, hrun, hended, hW, hframe⟩ := X.leave (v := some (.int 1)) (hlocks := hlocks) (fun h => by rw [hr] at h; cases h)
  have hmeth' : T.vm.method? m = some meth := X.method'
  refine ⟨T.setFrames fs, ?_, .returned (some (.int 1)), hrun, hended, rfl, ⟨_, rfl⟩, hW, hframe⟩
  jvm_step X.here [X.here.top, hx, hb, hdg, hmeth', hr, ret, narrow_b1]
  (try refine ⟨rfl, ?_⟩); (try refine ⟨rfl, ?_⟩)
  first | (intro acts; rw [hret _ acts rfl rfl rfl]) | rw [hret _ _ rfl rfl rfl]
  exact Steps.refl _
/-- what holds at the law's entry: the machine, the code, the tables' words (any of lw_tbl by 'hts w (by decide +kernel)'), the script of L ints xs at the cell b, what the Statement gives of the start (any of its parts by flat_of_before) -/
def lw_At (p : Program) (s : State) (m : MethodId) (meth : Method) (c : Code) (b L : Nat) (xs : Nat → Int32) : Prop :=
  p.tables.exec = Jvm.exec ∧ c.code = code ∧ meth.sig.returnType = ret ∧ c.maxLocals = 4 ∧ s.vm.findClass R_law = some m.cls ∧ (∀ w ∈ lw_tbl, w.before #[Value.ref b] s = true) ∧ va_X b L xs s s.heap ∧ b < s.heap.size ∧ meth.locks = false ∧ (Jvm.Cond.and given_1 narrow_1).before #[Value.ref b] s = true
/-- the script, and the law's own end -/
def SX (X : Cx) (b L : Nat) (xs : Nat → Int32) : Prop := match X with
  | (p, l, e, R, s, m, args, below, meth, c, nL, A, cells, slots) => va_X b L xs s s.heap ∧ b < s.heap.size ∧ (∀ q, A q ↔ s.heap.size ≤ q) ∧ args = #[Value.ref b]
def LawZ (X : Cx) (Q : State → Prop) : Prop := match X with
  | (p, l, e, R, s, m, args, below, meth, c, nL, A, cells, slots) => R = room_1 ∧ cells ≤ 600000 ∧ slots ≤ 7302250 ∧ (∃ b : Nat, args = #[Value.ref b] ∧ Q = lw_Z below #[Value.ref b] s) ∧ (∀ q, A q ↔ s.heap.size ≤ q)
theorem j_sld {α : Type} {A1 : Option α} {o : α} {E : En} {X : Cx} {Q : State → Prop} {S : Mem} {cc : ByteArray} {own : String} {nL d pc : Nat} {ret : Option FieldType} {lv : List (Nat × Value)} {st : List Value} (hF : Fx E X cc own nL ret d) {b L : Nat} {xs : Nat → Int32} {i : Int32} (hB : SX X b L xs) (h : (if i < 0 ∨ L ≤ i.toNatClampNeg then none else A1) = some o) (hd : decode cc pc = .ok (.iaload, 1)) (kk : A1 = some o → J E X Q S (pc + 1) lv (.int (xs i.toNatClampNeg) :: st)) : J E X Q S pc lv (.int i :: .ref b :: st) := by
  rcases X with ⟨p, l, e, R, s, m, args, below, meth, c, n0, A, cells, slots⟩
  obtain ⟨hx, hb, hml, hn0, hown, hts, hK, hStr, hLit, hr, hlocks, hl0, hd1, hd2, hd3, hd4⟩ := hF
  intro H locs ls hP hD hS hl
  obtain ⟨hX, hbl, hA, hargs⟩ := hB
  by_cases c0 : i < 0 ∨ L ≤ i.toNatClampNeg
  · rw [if_pos c0] at h; cases h
  · exact va_sld hx hb hX hbl (fun q => absurd ((hA b).mp q) (Nat.not_le.mpr hbl)) hS c0 hd (kk (by rw [if_neg c0] at h; exact h) H locs ls hP hD hS hl)
theorem j_slen {E : En} {X : Cx} {Q : State → Prop} {S : Mem} {cc : ByteArray} {own : String} {nL d pc : Nat} {ret : Option FieldType} {lv : List (Nat × Value)} {st : List Value} (hF : Fx E X cc own nL ret d) {b L : Nat} {xs : Nat → Int32} (hB : SX X b L xs) (hd : decode cc pc = .ok (.arraylength, 1)) (kk : J E X Q S (pc + 1) lv (.int (nI L) :: st)) : J E X Q S pc lv (.ref b :: st) := by
  rcases X with ⟨p, l, e, R, s, m, args, below, meth, c, n0, A, cells, slots⟩
  obtain ⟨hx, hb, hml, hn0, hown, hts, hK, hStr, hLit, hr, hlocks, hl0, hd1, hd2, hd3, hd4⟩ := hF
  intro H locs ls hP hD hS hl
  obtain ⟨hX, hbl, hA, hargs⟩ := hB
  exact va_slen hx hb hX hbl (fun q => absurd ((hA b).mp q) (Nat.not_le.mpr hbl)) hS hd (kk H locs ls hP hD hS hl)
theorem j_lawret {E : En} {X : Cx} {Q : State → Prop} {S : Mem} {nL d pc : Nat} {lv : List (Nat × Value)} (hF : Fx E X cL_law RL nL (some .boolean) d) (hZ : LawZ X Q) (hd : decode cL_law pc = .ok (.ireturn, 1)) : J E X Q S pc lv [.int (1 : Int32)] := by
  rcases X with ⟨p, l, e, R, s, m, args, below, meth, c, n0, A, cells, slots⟩
  obtain ⟨hx, hb, hml, hn0, hown, hts, hK, hStr, hLit, hr, hlocks, hl0, hd1, hd2, hd3, hd4⟩ := hF
  intro H locs ls hP hD hS hl
  obtain ⟨hR, hc, hsl, ⟨b, hargs, hQ⟩, hA⟩ := hZ
  subst hR; subst hargs; subst hQ
  exact va_forget (fun q h => (hA _).mp (hS.2.2 q h)) (W.widen (k := 600000) (n := 7302250) hc hsl (lw_ret hx hb hr hlocks hd))
def fL_law_b744 (N : Nat) (xs : Nat → Int32) (L : Nat) (v3 : Int32) (S : Mem) : Option ((Int32 × Mem) ⊕ ((Int32 × Mem) ⊕ (Mem))) :=
lt_ (v3 + (5 : Int32)) fun x12 =>
some (.inl (x12, S))
def fL_law_L18 (N : Nat) (xs : Nat → Int32) (L : Nat) (v3 : Int32) (S : Mem) : Option ((Int32 × Mem) ⊕ ((Int32 × Mem) ⊕ (Mem))) :=
if ((nI L) - (5 : Int32)) < v3 then
some (.inr (.inr (S)))
else
if v3 < 0 ∨ L ≤ v3.toNatClampNeg then none else
lt_ (xs v3.toNatClampNeg) fun x1 =>
if (x1 &&& (31 : Int32)) = (0 : Int32) then
if (v3 + (1 : Int32)) < 0 ∨ L ≤ (v3 + (1 : Int32)).toNatClampNeg then none else
lt_ (xs (v3 + (1 : Int32)).toNatClampNeg) fun x2 =>
if (v3 + (2 : Int32)) < 0 ∨ L ≤ (v3 + (2 : Int32)).toNatClampNeg then none else
lt_ (xs (v3 + (2 : Int32)).toNatClampNeg) fun x3 =>
if (v3 + (3 : Int32)) < 0 ∨ L ≤ (v3 + (3 : Int32)).toNatClampNeg then none else
lt_ (xs (v3 + (3 : Int32)).toNatClampNeg) fun x4 =>
bnd (f9_type N ((x2.toInt64 <<< ((32 : Int32).toInt64 &&& 63)) ||| (x3.toInt64 &&& (4294967295 : Int64))) x4 S) fun r5 S6 =>
if (v3 + (1 : Int32)) < 0 ∨ L ≤ (v3 + (1 : Int32)).toNatClampNeg then none else
lt_ (xs (v3 + (1 : Int32)).toNatClampNeg) fun x7 =>
if (v3 + (2 : Int32)) < 0 ∨ L ≤ (v3 + (2 : Int32)).toNatClampNeg then none else
lt_ (xs (v3 + (2 : Int32)).toNatClampNeg) fun x8 =>
if (v3 + (3 : Int32)) < 0 ∨ L ≤ (v3 + (3 : Int32)).toNatClampNeg then none else
lt_ (xs (v3 + (3 : Int32)).toNatClampNeg) fun x9 =>
bnd (f10_type N ((x7.toInt64 <<< ((32 : Int32).toInt64 &&& 63)) ||| (x8.toInt64 &&& (4294967295 : Int64))) x9 S6) fun r10 S11 =>
if r5 = r10 then
fL_law_b744 N xs L v3 S11
else
some (.inr (.inl (((0 : Int32), S11))))
else
if (x1 &&& (31 : Int32)) = (1 : Int32) then
bnd (f9_clear N S) fun r13 S14 =>
bnd (f10_clear N S14) fun r15 S16 =>
if r13 = r15 then
fL_law_b744 N xs L v3 S16
else
some (.inr (.inl (((0 : Int32), S16))))
else
if (x1 &&& (31 : Int32)) = (2 : Int32) then
bnd (f9_market N S) fun r17 S18 =>
bnd (f10_market N S18) fun r19 S20 =>
if r17 = r19 then
fL_law_b744 N xs L v3 S20
else
some (.inr (.inl (((0 : Int32), S20))))
else
if (x1 &&& (31 : Int32)) = (3 : Int32) then
if (v3 + (1 : Int32)) < 0 ∨ L ≤ (v3 + (1 : Int32)).toNatClampNeg then none else
lt_ (xs (v3 + (1 : Int32)).toNatClampNeg) fun x21 =>
bnp (f9_thing N x21 S) fun r22 =>
if (v3 + (1 : Int32)) < 0 ∨ L ≤ (v3 + (1 : Int32)).toNatClampNeg then none else
lt_ (xs (v3 + (1 : Int32)).toNatClampNeg) fun x23 =>
bnp (f10_thing N x23 S) fun r24 =>
if r22 = r24 then
fL_law_b744 N xs L v3 S
else
some (.inr (.inl (((0 : Int32), S))))
else
if (x1 &&& (31 : Int32)) = (4 : Int32) then
if (v3 + (1 : Int32)) < 0 ∨ L ≤ (v3 + (1 : Int32)).toNatClampNeg then none else
lt_ (xs (v3 + (1 : Int32)).toNatClampNeg) fun x25 =>
if (v3 + (2 : Int32)) < 0 ∨ L ≤ (v3 + (2 : Int32)).toNatClampNeg then none else
lt_ (xs (v3 + (2 : Int32)).toNatClampNeg) fun x26 =>
if (v3 + (3 : Int32)) < 0 ∨ L ≤ (v3 + (3 : Int32)).toNatClampNeg then none else
lt_ (xs (v3 + (3 : Int32)).toNatClampNeg) fun x27 =>
bnd (f9_weigh N x25 x26 x27 S) fun r28 S29 =>
if (v3 + (1 : Int32)) < 0 ∨ L ≤ (v3 + (1 : Int32)).toNatClampNeg then none else
lt_ (xs (v3 + (1 : Int32)).toNatClampNeg) fun x30 =>
if (v3 + (2 : Int32)) < 0 ∨ L ≤ (v3 + (2 : Int32)).toNatClampNeg then none else
lt_ (xs (v3 + (2 : Int32)).toNatClampNeg) fun x31 =>
if (v3 + (3 : Int32)) < 0 ∨ L ≤ (v3 + (3 : Int32)).toNatClampNeg then none else
lt_ (xs (v3 + (3 : Int32)).toNatClampNeg) fun x32 =>
bnd (f10_weigh N x30 x31 x32 S29) fun r33 S34 =>
if r28 = r33 then
fL_law_b744 N xs L v3 S34
else
some (.inr (.inl (((0 : Int32), S34))))
else
if (x1 &&& (31 : Int32)) = (5 : Int32) then
if (v3 + (1 : Int32)) < 0 ∨ L ≤ (v3 + (1 : Int32)).toNatClampNeg then none else
lt_ (xs (v3 + (1 : Int32)).toNatClampNeg) fun x35 =>
if (v3 + (2 : Int32)) < 0 ∨ L ≤ (v3 + (2 : Int32)).toNatClampNeg then none else
lt_ (xs (v3 + (2 : Int32)).toNatClampNeg) fun x36 =>
if (v3 + (3 : Int32)) < 0 ∨ L ≤ (v3 + (3 : Int32)).toNatClampNeg then none else
lt_ (xs (v3 + (3 : Int32)).toNatClampNeg) fun x37 =>
bnd (f9_tell N x35 x36 x37 S) fun r38 S39 =>
if (v3 + (1 : Int32)) < 0 ∨ L ≤ (v3 + (1 : Int32)).toNatClampNeg then none else
lt_ (xs (v3 + (1 : Int32)).toNatClampNeg) fun x40 =>
if (v3 + (2 : Int32)) < 0 ∨ L ≤ (v3 + (2 : Int32)).toNatClampNeg then none else
lt_ (xs (v3 + (2 : Int32)).toNatClampNeg) fun x41 =>
if (v3 + (3 : Int32)) < 0 ∨ L ≤ (v3 + (3 : Int32)).toNatClampNeg then none else
lt_ (xs (v3 + (3 : Int32)).toNatClampNeg) fun x42 =>
bnd (f10_tell N x40 x41 x42 S39) fun r43 S44 =>
if r38 = r43 then
fL_law_b744 N xs L v3 S44
else
some (.inr (.inl (((0 : Int32), S44))))
else
if (x1 &&& (31 : Int32)) = (6 : Int32) then
if (v3 + (1 : Int32)) < 0 ∨ L ≤ (v3 + (1 : Int32)).toNatClampNeg then none else
lt_ (xs (v3 + (1 : Int32)).toNatClampNeg) fun x45 =>
if (v3 + (2 : Int32)) < 0 ∨ L ≤ (v3 + (2 : Int32)).toNatClampNeg then none else
lt_ (xs (v3 + (2 : Int32)).toNatClampNeg) fun x46 =>
bnp (f9_line N x45 x46 S) fun r47 =>
if (v3 + (1 : Int32)) < 0 ∨ L ≤ (v3 + (1 : Int32)).toNatClampNeg then none else
lt_ (xs (v3 + (1 : Int32)).toNatClampNeg) fun x48 =>
if (v3 + (2 : Int32)) < 0 ∨ L ≤ (v3 + (2 : Int32)).toNatClampNeg then none else
lt_ (xs (v3 + (2 : Int32)).toNatClampNeg) fun x49 =>
bnp (f10_line N x48 x49 S) fun r50 =>
if r47 = r50 then
fL_law_b744 N xs L v3 S
else
some (.inr (.inl (((0 : Int32), S))))
else
if (x1 &&& (31 : Int32)) = (7 : Int32) then
bnd (f9_undo N S) fun r51 S52 =>
bnd (f10_undo N S52) fun r53 S54 =>
if r51 = r53 then
fL_law_b744 N xs L v3 S54
else
some (.inr (.inl (((0 : Int32), S54))))
else
if (x1 &&& (31 : Int32)) = (8 : Int32) then
if (v3 + (1 : Int32)) < 0 ∨ L ≤ (v3 + (1 : Int32)).toNatClampNeg then none else
lt_ (xs (v3 + (1 : Int32)).toNatClampNeg) fun x55 =>
if (v3 + (2 : Int32)) < 0 ∨ L ≤ (v3 + (2 : Int32)).toNatClampNeg then none else
lt_ (xs (v3 + (2 : Int32)).toNatClampNeg) fun x56 =>
bnd (f9_could N x55 x56 S) fun r57 S58 =>
if (v3 + (1 : Int32)) < 0 ∨ L ≤ (v3 + (1 : Int32)).toNatClampNeg then none else
lt_ (xs (v3 + (1 : Int32)).toNatClampNeg) fun x59 =>
if (v3 + (2 : Int32)) < 0 ∨ L ≤ (v3 + (2 : Int32)).toNatClampNeg then none else
lt_ (xs (v3 + (2 : Int32)).toNatClampNeg) fun x60 =>
bnd (f10_could N x59 x60 S58) fun r61 S62 =>
if r57 = r61 then
fL_law_b744 N xs L v3 S62
else
some (.inr (.inl (((0 : Int32), S62))))
else
if (x1 &&& (31 : Int32)) = (9 : Int32) then
if (v3 + (1 : Int32)) < 0 ∨ L ≤ (v3 + (1 : Int32)).toNatClampNeg then none else
lt_ (xs (v3 + (1 : Int32)).toNatClampNeg) fun x63 =>
bnd (f9_sure N x63 S) fun r64 S65 =>
if (v3 + (1 : Int32)) < 0 ∨ L ≤ (v3 + (1 : Int32)).toNatClampNeg then none else
lt_ (xs (v3 + (1 : Int32)).toNatClampNeg) fun x66 =>
bnd (f10_sure N x66 S65) fun r67 S68 =>
if r64 = r67 then
fL_law_b744 N xs L v3 S68
else
some (.inr (.inl (((0 : Int32), S68))))
else
if (x1 &&& (31 : Int32)) = (10 : Int32) then
if (v3 + (1 : Int32)) < 0 ∨ L ≤ (v3 + (1 : Int32)).toNatClampNeg then none else
lt_ (xs (v3 + (1 : Int32)).toNatClampNeg) fun x69 =>
bnd (f9_wrong N x69 S) fun r70 S71 =>
if (v3 + (1 : Int32)) < 0 ∨ L ≤ (v3 + (1 : Int32)).toNatClampNeg then none else
lt_ (xs (v3 + (1 : Int32)).toNatClampNeg) fun x72 =>
bnd (f10_wrong N x72 S71) fun r73 S74 =>
if r70 = r73 then
fL_law_b744 N xs L v3 S74
else
some (.inr (.inl (((0 : Int32), S74))))
else
if (x1 &&& (31 : Int32)) = (11 : Int32) then
if (v3 + (1 : Int32)) < 0 ∨ L ≤ (v3 + (1 : Int32)).toNatClampNeg then none else
lt_ (xs (v3 + (1 : Int32)).toNatClampNeg) fun x75 =>
bnd (f9_next N x75 S) fun r76 S77 =>
if (v3 + (1 : Int32)) < 0 ∨ L ≤ (v3 + (1 : Int32)).toNatClampNeg then none else
lt_ (xs (v3 + (1 : Int32)).toNatClampNeg) fun x78 =>
bnd (f10_next N x78 S77) fun r79 S80 =>
if r76 = r79 then
fL_law_b744 N xs L v3 S80
else
some (.inr (.inl (((0 : Int32), S80))))
else
if (x1 &&& (31 : Int32)) = (12 : Int32) then
if (v3 + (1 : Int32)) < 0 ∨ L ≤ (v3 + (1 : Int32)).toNatClampNeg then none else
lt_ (xs (v3 + (1 : Int32)).toNatClampNeg) fun x81 =>
bnd (f9_fewest N x81 S) fun r82 S83 =>
if (v3 + (1 : Int32)) < 0 ∨ L ≤ (v3 + (1 : Int32)).toNatClampNeg then none else
lt_ (xs (v3 + (1 : Int32)).toNatClampNeg) fun x84 =>
bnd (f10_fewest N x84 S83) fun r85 S86 =>
if r82 = r85 then
fL_law_b744 N xs L v3 S86
else
some (.inr (.inl (((0 : Int32), S86))))
else
if (x1 &&& (31 : Int32)) = (13 : Int32) then
if (v3 + (1 : Int32)) < 0 ∨ L ≤ (v3 + (1 : Int32)).toNatClampNeg then none else
lt_ (xs (v3 + (1 : Int32)).toNatClampNeg) fun x87 =>
bnd (f9_laugh N x87 S) fun r88 S89 =>
if (v3 + (1 : Int32)) < 0 ∨ L ≤ (v3 + (1 : Int32)).toNatClampNeg then none else
lt_ (xs (v3 + (1 : Int32)).toNatClampNeg) fun x90 =>
bnd (f10_laugh N x90 S89) fun r91 S92 =>
if r88 = r91 then
fL_law_b744 N xs L v3 S92
else
some (.inr (.inl (((0 : Int32), S92))))
else
if (x1 &&& (31 : Int32)) = (14 : Int32) then
if (v3 + (1 : Int32)) < 0 ∨ L ≤ (v3 + (1 : Int32)).toNatClampNeg then none else
lt_ (xs (v3 + (1 : Int32)).toNatClampNeg) fun x93 =>
if (v3 + (2 : Int32)) < 0 ∨ L ≤ (v3 + (2 : Int32)).toNatClampNeg then none else
lt_ (xs (v3 + (2 : Int32)).toNatClampNeg) fun x94 =>
if (v3 + (3 : Int32)) < 0 ∨ L ≤ (v3 + (3 : Int32)).toNatClampNeg then none else
lt_ (xs (v3 + (3 : Int32)).toNatClampNeg) fun x95 =>
if (v3 + (4 : Int32)) < 0 ∨ L ≤ (v3 + (4 : Int32)).toNatClampNeg then none else
lt_ (xs (v3 + (4 : Int32)).toNatClampNeg) fun x96 =>
bnd (f9_odds N x93 x94 x95 x96 S) fun r97 S98 =>
if (v3 + (1 : Int32)) < 0 ∨ L ≤ (v3 + (1 : Int32)).toNatClampNeg then none else
lt_ (xs (v3 + (1 : Int32)).toNatClampNeg) fun x99 =>
if (v3 + (2 : Int32)) < 0 ∨ L ≤ (v3 + (2 : Int32)).toNatClampNeg then none else
lt_ (xs (v3 + (2 : Int32)).toNatClampNeg) fun x100 =>
if (v3 + (3 : Int32)) < 0 ∨ L ≤ (v3 + (3 : Int32)).toNatClampNeg then none else
lt_ (xs (v3 + (3 : Int32)).toNatClampNeg) fun x101 =>
if (v3 + (4 : Int32)) < 0 ∨ L ≤ (v3 + (4 : Int32)).toNatClampNeg then none else
lt_ (xs (v3 + (4 : Int32)).toNatClampNeg) fun x102 =>
bnd (f10_odds N x99 x100 x101 x102 S98) fun r103 S104 =>
if (lg_cmp r97 r103) = 0 then
fL_law_b744 N xs L v3 S104
else
some (.inr (.inl (((0 : Int32), S104))))
else
if (x1 &&& (31 : Int32)) = (15 : Int32) then
if (v3 + (1 : Int32)) < 0 ∨ L ≤ (v3 + (1 : Int32)).toNatClampNeg then none else
lt_ (xs (v3 + (1 : Int32)).toNatClampNeg) fun x105 =>
if (v3 + (2 : Int32)) < 0 ∨ L ≤ (v3 + (2 : Int32)).toNatClampNeg then none else
lt_ (xs (v3 + (2 : Int32)).toNatClampNeg) fun x106 =>
bnp (f9_sack N x105 x106 S) fun r107 =>
if (v3 + (1 : Int32)) < 0 ∨ L ≤ (v3 + (1 : Int32)).toNatClampNeg then none else
lt_ (xs (v3 + (1 : Int32)).toNatClampNeg) fun x108 =>
if (v3 + (2 : Int32)) < 0 ∨ L ≤ (v3 + (2 : Int32)).toNatClampNeg then none else
lt_ (xs (v3 + (2 : Int32)).toNatClampNeg) fun x109 =>
bnp (f10_sack N x108 x109 S) fun r110 =>
if r107 = r110 then
fL_law_b744 N xs L v3 S
else
some (.inr (.inl (((0 : Int32), S))))
else
if (x1 &&& (31 : Int32)) = (16 : Int32) then
bnd (f9_byTurns N S) fun r111 S112 =>
bnd (f10_byTurns N S112) fun r113 S114 =>
if r111 = r113 then
fL_law_b744 N xs L v3 S114
else
some (.inr (.inl (((0 : Int32), S114))))
else
if (x1 &&& (31 : Int32)) = (17 : Int32) then
if (v3 + (1 : Int32)) < 0 ∨ L ≤ (v3 + (1 : Int32)).toNatClampNeg then none else
lt_ (xs (v3 + (1 : Int32)).toNatClampNeg) fun x115 =>
if (v3 + (2 : Int32)) < 0 ∨ L ≤ (v3 + (2 : Int32)).toNatClampNeg then none else
lt_ (xs (v3 + (2 : Int32)).toNatClampNeg) fun x116 =>
bnd (f9_mark N x115 x116 S) fun r117 S118 =>
if (v3 + (1 : Int32)) < 0 ∨ L ≤ (v3 + (1 : Int32)).toNatClampNeg then none else
lt_ (xs (v3 + (1 : Int32)).toNatClampNeg) fun x119 =>
if (v3 + (2 : Int32)) < 0 ∨ L ≤ (v3 + (2 : Int32)).toNatClampNeg then none else
lt_ (xs (v3 + (2 : Int32)).toNatClampNeg) fun x120 =>
bnd (f10_mark N x119 x120 S118) fun r121 S122 =>
if r117 = r121 then
fL_law_b744 N xs L v3 S122
else
some (.inr (.inl (((0 : Int32), S122))))
else
if (x1 &&& (31 : Int32)) = (18 : Int32) then
if (v3 + (1 : Int32)) < 0 ∨ L ≤ (v3 + (1 : Int32)).toNatClampNeg then none else
lt_ (xs (v3 + (1 : Int32)).toNatClampNeg) fun x123 =>
bnd (f9_keep N x123 S) fun r124 S125 =>
if (v3 + (1 : Int32)) < 0 ∨ L ≤ (v3 + (1 : Int32)).toNatClampNeg then none else
lt_ (xs (v3 + (1 : Int32)).toNatClampNeg) fun x126 =>
bnd (f10_keep N x126 S125) fun r127 S128 =>
if r124 = r127 then
fL_law_b744 N xs L v3 S128
else
some (.inr (.inl (((0 : Int32), S128))))
else
if (x1 &&& (31 : Int32)) = (19 : Int32) then
if (v3 + (1 : Int32)) < 0 ∨ L ≤ (v3 + (1 : Int32)).toNatClampNeg then none else
lt_ (xs (v3 + (1 : Int32)).toNatClampNeg) fun x129 =>
bnd (f9_back N x129 S) fun r130 S131 =>
if (v3 + (1 : Int32)) < 0 ∨ L ≤ (v3 + (1 : Int32)).toNatClampNeg then none else
lt_ (xs (v3 + (1 : Int32)).toNatClampNeg) fun x132 =>
bnd (f10_back N x132 S131) fun r133 S134 =>
if r130 = r133 then
fL_law_b744 N xs L v3 S134
else
some (.inr (.inl (((0 : Int32), S134))))
else
if (x1 &&& (31 : Int32)) = (20 : Int32) then
if (v3 + (1 : Int32)) < 0 ∨ L ≤ (v3 + (1 : Int32)).toNatClampNeg then none else
lt_ (xs (v3 + (1 : Int32)).toNatClampNeg) fun x135 =>
bnp (f9_count N x135 S) fun r136 =>
if (v3 + (1 : Int32)) < 0 ∨ L ≤ (v3 + (1 : Int32)).toNatClampNeg then none else
lt_ (xs (v3 + (1 : Int32)).toNatClampNeg) fun x137 =>
bnp (f10_count N x137 S) fun r138 =>
if r136 = r138 then
fL_law_b744 N xs L v3 S
else
some (.inr (.inl (((0 : Int32), S))))
else
if (x1 &&& (31 : Int32)) = (21 : Int32) then
bnp (f9_trace N S) fun r139 =>
bnp (f10_trace N S) fun r140 =>
if (lg_cmp r139 r140) = 0 then
fL_law_b744 N xs L v3 S
else
some (.inr (.inl (((0 : Int32), S))))
else
fL_law_b744 N xs L v3 S
def fL_law_b750 (N : Nat) (xs : Nat → Int32) (L : Nat) (S : Mem) : Option (Int32 × Mem) :=
some (((1 : Int32), S))
def fL_law (N : Nat) (xs : Nat → Int32) (L : Nat) (S : Mem) : Option (Int32 × Mem) :=
bnp (lp N (fun s => fL_law_L18 N xs L s.1 s.2) ((0 : Int32), S)) fun z141 => Sum.elim (fun r => some (r)) (fun x => fL_law_b750 N xs L x) z141
set_option maxHeartbeats 4000000 in
theorem tL_law_b744 {E : En} {X : Cx} {Q : State → Prop} {N : Nat} {xs : Nat → Int32} {L : Nat} {b : Nat} {v3 : Int32} {S : Mem} {o : ((Int32 × Mem) ⊕ ((Int32 × Mem) ⊕ (Mem)))} (hB : SX X b L xs) (hZ : LawZ X Q) (hF : Fx E X cL_law RL 4 (some .boolean) 9) (h : fL_law_b744 N xs L v3 S = some o) (hC : Sum.elim (fun (s : (Int32 × Mem)) => J E X Q s.2 18 [(0, .ref b), (1, .ref (eA E 0)), (2, .ref (eA E 57)), (3, .int s.1)] []) (Sum.elim (fun (r : (Int32 × Mem)) => r.1 = (1 : Int32)) (fun (x : (Mem)) => J E X Q x 750 [] [])) o) : J E X Q S 744 [(0, .ref b), (1, .ref (eA E 0)), (2, .ref (eA E 57)), (3, .int v3)] [] := by
  unfold fL_law_b744 at h
  refine j_iinc (v := (v3 + (5 : Int32))) (lv' := [(3, .int (v3 + (5 : Int32))), (0, .ref b), (1, .ref (eA E 0)), (2, .ref (eA E 57))]) (q := 3) hF rfl (congrArg (fun z => v3 + z) (by decide)) (by decide) rfl dL_law_744 ?_
  refine j_nmL h (fun x12 h => ?_)
  refine j_goto (tgt := 18) hF (by decide) dL_law_747 ?_
  obtain rfl := ret1 h
  refine j_sub (lv' := [(0, .ref b), (1, .ref (eA E 0)), (2, .ref (eA E 57)), (3, .int x12)]) hF [1, 2, 3, 0] rfl ?_
  exact hC
set_option maxHeartbeats 4000000 in
theorem tL_law_L18 {E : En} {X : Cx} {Q : State → Prop} {N : Nat} {xs : Nat → Int32} {L : Nat} {b : Nat} {v3 : Int32} {S : Mem} {o : ((Int32 × Mem) ⊕ ((Int32 × Mem) ⊕ (Mem)))} (hB : SX X b L xs) (hZ : LawZ X Q) (hF : Fx E X cL_law RL 4 (some .boolean) 9) (h : fL_law_L18 N xs L v3 S = some o) (hC : Sum.elim (fun (s : (Int32 × Mem)) => J E X Q s.2 18 [(0, .ref b), (1, .ref (eA E 0)), (2, .ref (eA E 57)), (3, .int s.1)] []) (Sum.elim (fun (r : (Int32 × Mem)) => r.1 = (1 : Int32)) (fun (x : (Mem)) => J E X Q x 750 [] [])) o) : J E X Q S 18 [(0, .ref b), (1, .ref (eA E 0)), (2, .ref (eA E 57)), (3, .int v3)] [] := by
  unfold fL_law_L18 at h
  refine j_iload_n hF rfl 3 rfl dL_law_18 ?_
  refine j_aload_n hF rfl 0 rfl dL_law_19 ?_
  refine j_slen hF hB dL_law_20 ?_
  refine j_iconst (v := (5 : Int32)) hF (by decide) dL_law_21 ?_
  refine j_isub hF dL_law_22 ?_
  refine j_icmp_gt (tgt := 750) hF h (by decide) dL_law_23 (fun h => ?_) (fun h => ?_)
  · obtain rfl := ret1 h
    refine j_sub (lv' := []) hF [] rfl ?_
    exact hC
  · refine j_aload_n hF rfl 0 rfl dL_law_26 ?_
    refine j_iload_n hF rfl 3 rfl dL_law_27 ?_
    refine j_sld hF hB h dL_law_28 (fun h => ?_)
    refine j_nmT h (fun x1 h => ?_)
    refine j_bipush (v := (31 : Int32)) hF (by decide) dL_law_29 ?_
    refine j_iand hF dL_law_31 ?_
    by_cases c0 : (x1 &&& (31 : Int32)) = (0 : Int32)
    · rw [if_pos c0] at h
      refine j_tswIn (tgt := 136) hF c0 (by decide) (by decide) rfl (by decide) dL_law_32 ?_
      refine j_aload_n hF rfl 1 rfl dL_law_136 ?_
      refine j_aload_n hF rfl 0 rfl dL_law_137 ?_
      refine j_iload_n hF rfl 3 rfl dL_law_138 ?_
      refine j_iconst (v := (1 : Int32)) hF (by decide) dL_law_139 ?_
      refine j_iadd hF dL_law_140 ?_
      refine j_sld hF hB h dL_law_141 (fun h => ?_)
      refine j_nmT h (fun x2 h => ?_)
      refine j_i2l hF dL_law_142 ?_
      refine j_bipush (v := (32 : Int32)) hF (by decide) dL_law_143 ?_
      refine j_lshl hF dL_law_145 ?_
      refine j_aload_n hF rfl 0 rfl dL_law_146 ?_
      refine j_iload_n hF rfl 3 rfl dL_law_147 ?_
      refine j_iconst (v := (2 : Int32)) hF (by decide) dL_law_148 ?_
      refine j_iadd hF dL_law_149 ?_
      refine j_sld hF hB h dL_law_150 (fun h => ?_)
      refine j_nmT h (fun x3 h => ?_)
      refine j_i2l hF dL_law_151 ?_
      refine j_ldc2 (v := (4294967295 : Int64)) hF bw_5_162 dL_law_152 ?_
      refine j_land hF dL_law_155 ?_
      refine j_lor hF dL_law_156 ?_
      refine j_aload_n hF rfl 0 rfl dL_law_157 ?_
      refine j_iload_n hF rfl 3 rfl dL_law_158 ?_
      refine j_iconst (v := (3 : Int32)) hF (by decide) dL_law_159 ?_
      refine j_iadd hF dL_law_160 ?_
      refine j_sld hF hB h dL_law_161 (fun h => ?_)
      refine j_nmT h (fun x4 h => ?_)
      obtain ⟨r5, S6, hr5, h⟩ := bnd_some h
      refine j_callV_i (As := [.long ((x2.toInt64 <<< ((32 : Int32).toInt64 &&& 63)) ||| (x3.toInt64 &&& (4294967295 : Int64))), .int x4]) (st := []) hF rfl mv_9_type (by decide) (s_0 E _) rfl bw_2_13 rfl (by decide) (Nat.le_of_ble_eq_true rfl) dL_law_162 (c9_type hr5) ?_
      refine j_aload_n hF rfl 2 rfl dL_law_165 ?_
      refine j_aload_n hF rfl 0 rfl dL_law_166 ?_
      refine j_iload_n hF rfl 3 rfl dL_law_167 ?_
      refine j_iconst (v := (1 : Int32)) hF (by decide) dL_law_168 ?_
      refine j_iadd hF dL_law_169 ?_
      refine j_sld hF hB h dL_law_170 (fun h => ?_)
      refine j_nmT h (fun x7 h => ?_)
      refine j_i2l hF dL_law_171 ?_
      refine j_bipush (v := (32 : Int32)) hF (by decide) dL_law_172 ?_
      refine j_lshl hF dL_law_174 ?_
      refine j_aload_n hF rfl 0 rfl dL_law_175 ?_
      refine j_iload_n hF rfl 3 rfl dL_law_176 ?_
      refine j_iconst (v := (2 : Int32)) hF (by decide) dL_law_177 ?_
      refine j_iadd hF dL_law_178 ?_
      refine j_sld hF hB h dL_law_179 (fun h => ?_)
      refine j_nmT h (fun x8 h => ?_)
      refine j_i2l hF dL_law_180 ?_
      refine j_ldc2 (v := (4294967295 : Int64)) hF bw_5_162 dL_law_181 ?_
      refine j_land hF dL_law_184 ?_
      refine j_lor hF dL_law_185 ?_
      refine j_aload_n hF rfl 0 rfl dL_law_186 ?_
      refine j_iload_n hF rfl 3 rfl dL_law_187 ?_
      refine j_iconst (v := (3 : Int32)) hF (by decide) dL_law_188 ?_
      refine j_iadd hF dL_law_189 ?_
      refine j_sld hF hB h dL_law_190 (fun h => ?_)
      refine j_nmT h (fun x9 h => ?_)
      obtain ⟨r10, S11, hr10, h⟩ := bnd_some h
      refine j_callV_i (As := [.long ((x7.toInt64 <<< ((32 : Int32).toInt64 &&& 63)) ||| (x8.toInt64 &&& (4294967295 : Int64))), .int x9]) (st := [.int r5]) hF rfl mv_10_type (by decide) (s_57 E _) rfl bw_4_197 rfl (by decide) (Nat.le_of_ble_eq_true rfl) dL_law_191 (c10_type hr10) ?_
      refine j_icmp_eq (tgt := 744) hF h (by decide) dL_law_194 (fun h => ?_) (fun h => ?_)
      · exact tL_law_b744 hB hZ hF h hC
      · refine j_iconst (v := (0 : Int32)) hF (by decide) dL_law_197 ?_
        obtain rfl := ret1 h
        exact absurd (show (0 : Int32) = 1 from hC) (by decide)
    · rw [if_neg c0] at h
      by_cases c1 : (x1 &&& (31 : Int32)) = (1 : Int32)
      · rw [if_pos c1] at h
        refine j_tswIn (tgt := 199) hF c1 (by decide) (by decide) rfl (by decide) dL_law_32 ?_
        refine j_aload_n hF rfl 1 rfl dL_law_199 ?_
        obtain ⟨r13, S14, hr13, h⟩ := bnd_some h
        refine j_callV_i (As := []) (st := []) hF rfl mv_9_clear (by decide) (s_0 E _) rfl bw_2_29 rfl (by decide) (Nat.le_of_ble_eq_true rfl) dL_law_200 (c9_clear hr13) ?_
        refine j_aload_n hF rfl 2 rfl dL_law_203 ?_
        obtain ⟨r15, S16, hr15, h⟩ := bnd_some h
        refine j_callV_i (As := []) (st := [.int r13]) hF rfl mv_10_clear (by decide) (s_57 E _) rfl bw_4_205 rfl (by decide) (Nat.le_of_ble_eq_true rfl) dL_law_204 (c10_clear hr15) ?_
        refine j_icmp_eq (tgt := 744) hF h (by decide) dL_law_207 (fun h => ?_) (fun h => ?_)
        · exact tL_law_b744 hB hZ hF h hC
        · refine j_iconst (v := (0 : Int32)) hF (by decide) dL_law_210 ?_
          obtain rfl := ret1 h
          exact absurd (show (0 : Int32) = 1 from hC) (by decide)
      · rw [if_neg c1] at h
        by_cases c2 : (x1 &&& (31 : Int32)) = (2 : Int32)
        · rw [if_pos c2] at h
          refine j_tswIn (tgt := 212) hF c2 (by decide) (by decide) rfl (by decide) dL_law_32 ?_
          refine j_aload_n hF rfl 1 rfl dL_law_212 ?_
          obtain ⟨r17, S18, hr17, h⟩ := bnd_some h
          refine j_callV_i (As := []) (st := []) hF rfl mv_9_market (by decide) (s_0 E _) rfl bw_2_37 rfl (by decide) (Nat.le_of_ble_eq_true rfl) dL_law_213 (c9_market hr17) ?_
          refine j_aload_n hF rfl 2 rfl dL_law_216 ?_
          obtain ⟨r19, S20, hr19, h⟩ := bnd_some h
          refine j_callV_i (As := []) (st := [.int r17]) hF rfl mv_10_market (by decide) (s_57 E _) rfl bw_4_209 rfl (by decide) (Nat.le_of_ble_eq_true rfl) dL_law_217 (c10_market hr19) ?_
          refine j_icmp_eq (tgt := 744) hF h (by decide) dL_law_220 (fun h => ?_) (fun h => ?_)
          · exact tL_law_b744 hB hZ hF h hC
          · refine j_iconst (v := (0 : Int32)) hF (by decide) dL_law_223 ?_
            obtain rfl := ret1 h
            exact absurd (show (0 : Int32) = 1 from hC) (by decide)
        · rw [if_neg c2] at h
          by_cases c3 : (x1 &&& (31 : Int32)) = (3 : Int32)
          · rw [if_pos c3] at h
            refine j_tswIn (tgt := 225) hF c3 (by decide) (by decide) rfl (by decide) dL_law_32 ?_
            refine j_aload_n hF rfl 1 rfl dL_law_225 ?_
            refine j_aload_n hF rfl 0 rfl dL_law_226 ?_
            refine j_iload_n hF rfl 3 rfl dL_law_227 ?_
            refine j_iconst (v := (1 : Int32)) hF (by decide) dL_law_228 ?_
            refine j_iadd hF dL_law_229 ?_
            refine j_sld hF hB h dL_law_230 (fun h => ?_)
            refine j_nmT h (fun x21 h => ?_)
            obtain ⟨r22, hr22, h⟩ := bnp_some h
            refine j_callV_i (As := [.int x21]) (st := []) hF rfl mv_9_thing (by decide) (s_0 E _) rfl bw_2_210 rfl (by decide) (Nat.le_of_ble_eq_true rfl) dL_law_231 (c9_thing hr22) ?_
            refine j_aload_n hF rfl 2 rfl dL_law_234 ?_
            refine j_aload_n hF rfl 0 rfl dL_law_235 ?_
            refine j_iload_n hF rfl 3 rfl dL_law_236 ?_
            refine j_iconst (v := (1 : Int32)) hF (by decide) dL_law_237 ?_
            refine j_iadd hF dL_law_238 ?_
            refine j_sld hF hB h dL_law_239 (fun h => ?_)
            refine j_nmT h (fun x23 h => ?_)
            obtain ⟨r24, hr24, h⟩ := bnp_some h
            refine j_callV_i (As := [.int x23]) (st := [.int r22]) hF rfl mv_10_thing (by decide) (s_57 E _) rfl bw_4_235 rfl (by decide) (Nat.le_of_ble_eq_true rfl) dL_law_240 (c10_thing hr24) ?_
            refine j_icmp_eq (tgt := 744) hF h (by decide) dL_law_243 (fun h => ?_) (fun h => ?_)
            · exact tL_law_b744 hB hZ hF h hC
            · refine j_iconst (v := (0 : Int32)) hF (by decide) dL_law_246 ?_
              obtain rfl := ret1 h
              exact absurd (show (0 : Int32) = 1 from hC) (by decide)
          · rw [if_neg c3] at h
            by_cases c4 : (x1 &&& (31 : Int32)) = (4 : Int32)
            · rw [if_pos c4] at h
              refine j_tswIn (tgt := 248) hF c4 (by decide) (by decide) rfl (by decide) dL_law_32 ?_
              refine j_aload_n hF rfl 1 rfl dL_law_248 ?_
              refine j_aload_n hF rfl 0 rfl dL_law_249 ?_
              refine j_iload_n hF rfl 3 rfl dL_law_250 ?_
              refine j_iconst (v := (1 : Int32)) hF (by decide) dL_law_251 ?_
              refine j_iadd hF dL_law_252 ?_
              refine j_sld hF hB h dL_law_253 (fun h => ?_)
              refine j_nmT h (fun x25 h => ?_)
              refine j_aload_n hF rfl 0 rfl dL_law_254 ?_
              refine j_iload_n hF rfl 3 rfl dL_law_255 ?_
              refine j_iconst (v := (2 : Int32)) hF (by decide) dL_law_256 ?_
              refine j_iadd hF dL_law_257 ?_
              refine j_sld hF hB h dL_law_258 (fun h => ?_)
              refine j_nmT h (fun x26 h => ?_)
              refine j_aload_n hF rfl 0 rfl dL_law_259 ?_
              refine j_iload_n hF rfl 3 rfl dL_law_260 ?_
              refine j_iconst (v := (3 : Int32)) hF (by decide) dL_law_261 ?_
              refine j_iadd hF dL_law_262 ?_
              refine j_sld hF hB h dL_law_263 (fun h => ?_)
              refine j_nmT h (fun x27 h => ?_)
              obtain ⟨r28, S29, hr28, h⟩ := bnd_some h
              refine j_callV_i (As := [.int x25, .int x26, .int x27]) (st := []) hF rfl mv_9_weigh (by decide) (s_0 E _) rfl bw_2_225 rfl (by decide) (Nat.le_of_ble_eq_true rfl) dL_law_264 (c9_weigh hr28) ?_
              refine j_aload_n hF rfl 2 rfl dL_law_267 ?_
              refine j_aload_n hF rfl 0 rfl dL_law_268 ?_
              refine j_iload_n hF rfl 3 rfl dL_law_269 ?_
              refine j_iconst (v := (1 : Int32)) hF (by decide) dL_law_270 ?_
              refine j_iadd hF dL_law_271 ?_
              refine j_sld hF hB h dL_law_272 (fun h => ?_)
              refine j_nmT h (fun x30 h => ?_)
              refine j_aload_n hF rfl 0 rfl dL_law_273 ?_
              refine j_iload_n hF rfl 3 rfl dL_law_274 ?_
              refine j_iconst (v := (2 : Int32)) hF (by decide) dL_law_275 ?_
              refine j_iadd hF dL_law_276 ?_
              refine j_sld hF hB h dL_law_277 (fun h => ?_)
              refine j_nmT h (fun x31 h => ?_)
              refine j_aload_n hF rfl 0 rfl dL_law_278 ?_
              refine j_iload_n hF rfl 3 rfl dL_law_279 ?_
              refine j_iconst (v := (3 : Int32)) hF (by decide) dL_law_280 ?_
              refine j_iadd hF dL_law_281 ?_
              refine j_sld hF hB h dL_law_282 (fun h => ?_)
              refine j_nmT h (fun x32 h => ?_)
              obtain ⟨r33, S34, hr33, h⟩ := bnd_some h
              refine j_callV_i (As := [.int x30, .int x31, .int x32]) (st := [.int r28]) hF rfl mv_10_weigh (by decide) (s_57 E _) rfl bw_5_3 rfl (by decide) (Nat.le_of_ble_eq_true rfl) dL_law_283 (c10_weigh hr33) ?_
              refine j_icmp_eq (tgt := 744) hF h (by decide) dL_law_286 (fun h => ?_) (fun h => ?_)
              · exact tL_law_b744 hB hZ hF h hC
              · refine j_iconst (v := (0 : Int32)) hF (by decide) dL_law_289 ?_
                obtain rfl := ret1 h
                exact absurd (show (0 : Int32) = 1 from hC) (by decide)
            · rw [if_neg c4] at h
              by_cases c5 : (x1 &&& (31 : Int32)) = (5 : Int32)
              · rw [if_pos c5] at h
                refine j_tswIn (tgt := 291) hF c5 (by decide) (by decide) rfl (by decide) dL_law_32 ?_
                refine j_aload_n hF rfl 1 rfl dL_law_291 ?_
                refine j_aload_n hF rfl 0 rfl dL_law_292 ?_
                refine j_iload_n hF rfl 3 rfl dL_law_293 ?_
                refine j_iconst (v := (1 : Int32)) hF (by decide) dL_law_294 ?_
                refine j_iadd hF dL_law_295 ?_
                refine j_sld hF hB h dL_law_296 (fun h => ?_)
                refine j_nmT h (fun x35 h => ?_)
                refine j_aload_n hF rfl 0 rfl dL_law_297 ?_
                refine j_iload_n hF rfl 3 rfl dL_law_298 ?_
                refine j_iconst (v := (2 : Int32)) hF (by decide) dL_law_299 ?_
                refine j_iadd hF dL_law_300 ?_
                refine j_sld hF hB h dL_law_301 (fun h => ?_)
                refine j_nmT h (fun x36 h => ?_)
                refine j_aload_n hF rfl 0 rfl dL_law_302 ?_
                refine j_iload_n hF rfl 3 rfl dL_law_303 ?_
                refine j_iconst (v := (3 : Int32)) hF (by decide) dL_law_304 ?_
                refine j_iadd hF dL_law_305 ?_
                refine j_sld hF hB h dL_law_306 (fun h => ?_)
                refine j_nmT h (fun x37 h => ?_)
                obtain ⟨r38, S39, hr38, h⟩ := bnd_some h
                refine j_callV_i (As := [.int x35, .int x36, .int x37]) (st := []) hF rfl mv_9_tell (by decide) (s_0 E _) rfl bw_3_19 rfl (by decide) (Nat.le_of_ble_eq_true rfl) dL_law_307 (c9_tell hr38) ?_
                refine j_aload_n hF rfl 2 rfl dL_law_310 ?_
                refine j_aload_n hF rfl 0 rfl dL_law_311 ?_
                refine j_iload_n hF rfl 3 rfl dL_law_312 ?_
                refine j_iconst (v := (1 : Int32)) hF (by decide) dL_law_313 ?_
                refine j_iadd hF dL_law_314 ?_
                refine j_sld hF hB h dL_law_315 (fun h => ?_)
                refine j_nmT h (fun x40 h => ?_)
                refine j_aload_n hF rfl 0 rfl dL_law_316 ?_
                refine j_iload_n hF rfl 3 rfl dL_law_317 ?_
                refine j_iconst (v := (2 : Int32)) hF (by decide) dL_law_318 ?_
                refine j_iadd hF dL_law_319 ?_
                refine j_sld hF hB h dL_law_320 (fun h => ?_)
                refine j_nmT h (fun x41 h => ?_)
                refine j_aload_n hF rfl 0 rfl dL_law_321 ?_
                refine j_iload_n hF rfl 3 rfl dL_law_322 ?_
                refine j_iconst (v := (3 : Int32)) hF (by decide) dL_law_323 ?_
                refine j_iadd hF dL_law_324 ?_
                refine j_sld hF hB h dL_law_325 (fun h => ?_)
                refine j_nmT h (fun x42 h => ?_)
                obtain ⟨r43, S44, hr43, h⟩ := bnd_some h
                refine j_callV_i (As := [.int x40, .int x41, .int x42]) (st := [.int r38]) hF rfl mv_10_tell (by decide) (s_57 E _) rfl bw_5_19 rfl (by decide) (Nat.le_of_ble_eq_true rfl) dL_law_326 (c10_tell hr43) ?_
                refine j_icmp_eq (tgt := 744) hF h (by decide) dL_law_329 (fun h => ?_) (fun h => ?_)
                · exact tL_law_b744 hB hZ hF h hC
                · refine j_iconst (v := (0 : Int32)) hF (by decide) dL_law_332 ?_
                  obtain rfl := ret1 h
                  exact absurd (show (0 : Int32) = 1 from hC) (by decide)
              · rw [if_neg c5] at h
                by_cases c6 : (x1 &&& (31 : Int32)) = (6 : Int32)
                · rw [if_pos c6] at h
                  refine j_tswIn (tgt := 334) hF c6 (by decide) (by decide) rfl (by decide) dL_law_32 ?_
                  refine j_aload_n hF rfl 1 rfl dL_law_334 ?_
                  refine j_aload_n hF rfl 0 rfl dL_law_335 ?_
                  refine j_iload_n hF rfl 3 rfl dL_law_336 ?_
                  refine j_iconst (v := (1 : Int32)) hF (by decide) dL_law_337 ?_
                  refine j_iadd hF dL_law_338 ?_
                  refine j_sld hF hB h dL_law_339 (fun h => ?_)
                  refine j_nmT h (fun x45 h => ?_)
                  refine j_aload_n hF rfl 0 rfl dL_law_340 ?_
                  refine j_iload_n hF rfl 3 rfl dL_law_341 ?_
                  refine j_iconst (v := (2 : Int32)) hF (by decide) dL_law_342 ?_
                  refine j_iadd hF dL_law_343 ?_
                  refine j_sld hF hB h dL_law_344 (fun h => ?_)
                  refine j_nmT h (fun x46 h => ?_)
                  obtain ⟨r47, hr47, h⟩ := bnp_some h
                  refine j_callV_i (As := [.int x45, .int x46]) (st := []) hF rfl mv_9_line (by decide) (s_0 E _) rfl bw_3_31 rfl (by decide) (Nat.le_of_ble_eq_true rfl) dL_law_345 (c9_line hr47) ?_
                  refine j_aload_n hF rfl 2 rfl dL_law_348 ?_
                  refine j_aload_n hF rfl 0 rfl dL_law_349 ?_
                  refine j_iload_n hF rfl 3 rfl dL_law_350 ?_
                  refine j_iconst (v := (1 : Int32)) hF (by decide) dL_law_351 ?_
                  refine j_iadd hF dL_law_352 ?_
                  refine j_sld hF hB h dL_law_353 (fun h => ?_)
                  refine j_nmT h (fun x48 h => ?_)
                  refine j_aload_n hF rfl 0 rfl dL_law_354 ?_
                  refine j_iload_n hF rfl 3 rfl dL_law_355 ?_
                  refine j_iconst (v := (2 : Int32)) hF (by decide) dL_law_356 ?_
                  refine j_iadd hF dL_law_357 ?_
                  refine j_sld hF hB h dL_law_358 (fun h => ?_)
                  refine j_nmT h (fun x49 h => ?_)
                  obtain ⟨r50, hr50, h⟩ := bnp_some h
                  refine j_callV_i (As := [.int x48, .int x49]) (st := [.int r47]) hF rfl mv_10_line (by decide) (s_57 E _) rfl bw_5_23 rfl (by decide) (Nat.le_of_ble_eq_true rfl) dL_law_359 (c10_line hr50) ?_
                  refine j_icmp_eq (tgt := 744) hF h (by decide) dL_law_362 (fun h => ?_) (fun h => ?_)
                  · exact tL_law_b744 hB hZ hF h hC
                  · refine j_iconst (v := (0 : Int32)) hF (by decide) dL_law_365 ?_
                    obtain rfl := ret1 h
                    exact absurd (show (0 : Int32) = 1 from hC) (by decide)
                · rw [if_neg c6] at h
                  by_cases c7 : (x1 &&& (31 : Int32)) = (7 : Int32)
                  · rw [if_pos c7] at h
                    refine j_tswIn (tgt := 367) hF c7 (by decide) (by decide) rfl (by decide) dL_law_32 ?_
                    refine j_aload_n hF rfl 1 rfl dL_law_367 ?_
                    obtain ⟨r51, S52, hr51, h⟩ := bnd_some h
                    refine j_callV_i (As := []) (st := []) hF rfl mv_9_undo (by decide) (s_0 E _) rfl bw_3_52 rfl (by decide) (Nat.le_of_ble_eq_true rfl) dL_law_368 (c9_undo hr51) ?_
                    refine j_aload_n hF rfl 2 rfl dL_law_371 ?_
                    obtain ⟨r53, S54, hr53, h⟩ := bnd_some h
                    refine j_callV_i (As := []) (st := [.int r51]) hF rfl mv_10_undo (by decide) (s_57 E _) rfl bw_5_31 rfl (by decide) (Nat.le_of_ble_eq_true rfl) dL_law_372 (c10_undo hr53) ?_
                    refine j_icmp_eq (tgt := 744) hF h (by decide) dL_law_375 (fun h => ?_) (fun h => ?_)
                    · exact tL_law_b744 hB hZ hF h hC
                    · refine j_iconst (v := (0 : Int32)) hF (by decide) dL_law_378 ?_
                      obtain rfl := ret1 h
                      exact absurd (show (0 : Int32) = 1 from hC) (by decide)
                  · rw [if_neg c7] at h
                    by_cases c8 : (x1 &&& (31 : Int32)) = (8 : Int32)
                    · rw [if_pos c8] at h
                      refine j_tswIn (tgt := 380) hF c8 (by decide) (by decide) rfl (by decide) dL_law_32 ?_
                      refine j_aload_n hF rfl 1 rfl dL_law_380 ?_
                      refine j_aload_n hF rfl 0 rfl dL_law_381 ?_
                      refine j_iload_n hF rfl 3 rfl dL_law_382 ?_
                      refine j_iconst (v := (1 : Int32)) hF (by decide) dL_law_383 ?_
                      refine j_iadd hF dL_law_384 ?_
                      refine j_sld hF hB h dL_law_385 (fun h => ?_)
                      refine j_nmT h (fun x55 h => ?_)
                      refine j_aload_n hF rfl 0 rfl dL_law_386 ?_
                      refine j_iload_n hF rfl 3 rfl dL_law_387 ?_
                      refine j_iconst (v := (2 : Int32)) hF (by decide) dL_law_388 ?_
                      refine j_iadd hF dL_law_389 ?_
                      refine j_sld hF hB h dL_law_390 (fun h => ?_)
                      refine j_nmT h (fun x56 h => ?_)
                      obtain ⟨r57, S58, hr57, h⟩ := bnd_some h
                      refine j_callV_i (As := [.int x55, .int x56]) (st := []) hF rfl mv_9_could (by decide) (s_0 E _) rfl bw_3_60 rfl (by decide) (Nat.le_of_ble_eq_true rfl) dL_law_391 (c9_could hr57) ?_
                      refine j_aload_n hF rfl 2 rfl dL_law_394 ?_
                      refine j_aload_n hF rfl 0 rfl dL_law_395 ?_
                      refine j_iload_n hF rfl 3 rfl dL_law_396 ?_
                      refine j_iconst (v := (1 : Int32)) hF (by decide) dL_law_397 ?_
                      refine j_iadd hF dL_law_398 ?_
                      refine j_sld hF hB h dL_law_399 (fun h => ?_)
                      refine j_nmT h (fun x59 h => ?_)
                      refine j_aload_n hF rfl 0 rfl dL_law_400 ?_
                      refine j_iload_n hF rfl 3 rfl dL_law_401 ?_
                      refine j_iconst (v := (2 : Int32)) hF (by decide) dL_law_402 ?_
                      refine j_iadd hF dL_law_403 ?_
                      refine j_sld hF hB h dL_law_404 (fun h => ?_)
                      refine j_nmT h (fun x60 h => ?_)
                      obtain ⟨r61, S62, hr61, h⟩ := bnd_some h
                      refine j_callV_i (As := [.int x59, .int x60]) (st := [.int r57]) hF rfl mv_10_could (by decide) (s_57 E _) rfl bw_5_35 rfl (by decide) (Nat.le_of_ble_eq_true rfl) dL_law_405 (c10_could hr61) ?_
                      refine j_icmp_eq (tgt := 744) hF h (by decide) dL_law_408 (fun h => ?_) (fun h => ?_)
                      · exact tL_law_b744 hB hZ hF h hC
                      · refine j_iconst (v := (0 : Int32)) hF (by decide) dL_law_411 ?_
                        obtain rfl := ret1 h
                        exact absurd (show (0 : Int32) = 1 from hC) (by decide)
                    · rw [if_neg c8] at h
                      by_cases c9 : (x1 &&& (31 : Int32)) = (9 : Int32)
                      · rw [if_pos c9] at h
                        refine j_tswIn (tgt := 413) hF c9 (by decide) (by decide) rfl (by decide) dL_law_32 ?_
                        refine j_aload_n hF rfl 1 rfl dL_law_413 ?_
                        refine j_aload_n hF rfl 0 rfl dL_law_414 ?_
                        refine j_iload_n hF rfl 3 rfl dL_law_415 ?_
                        refine j_iconst (v := (1 : Int32)) hF (by decide) dL_law_416 ?_
                        refine j_iadd hF dL_law_417 ?_
                        refine j_sld hF hB h dL_law_418 (fun h => ?_)
                        refine j_nmT h (fun x63 h => ?_)
                        obtain ⟨r64, S65, hr64, h⟩ := bnd_some h
                        refine j_callV_i (As := [.int x63]) (st := []) hF rfl mv_9_sure (by decide) (s_0 E _) rfl bw_3_140 rfl (by decide) (Nat.le_of_ble_eq_true rfl) dL_law_419 (c9_sure hr64) ?_
                        refine j_aload_n hF rfl 2 rfl dL_law_422 ?_
                        refine j_aload_n hF rfl 0 rfl dL_law_423 ?_
                        refine j_iload_n hF rfl 3 rfl dL_law_424 ?_
                        refine j_iconst (v := (1 : Int32)) hF (by decide) dL_law_425 ?_
                        refine j_iadd hF dL_law_426 ?_
                        refine j_sld hF hB h dL_law_427 (fun h => ?_)
                        refine j_nmT h (fun x66 h => ?_)
                        obtain ⟨r67, S68, hr67, h⟩ := bnd_some h
                        refine j_callV_i (As := [.int x66]) (st := [.int r64]) hF rfl mv_10_sure (by decide) (s_57 E _) rfl bw_5_71 rfl (by decide) (Nat.le_of_ble_eq_true rfl) dL_law_428 (c10_sure hr67) ?_
                        refine j_icmp_eq (tgt := 744) hF h (by decide) dL_law_431 (fun h => ?_) (fun h => ?_)
                        · exact tL_law_b744 hB hZ hF h hC
                        · refine j_iconst (v := (0 : Int32)) hF (by decide) dL_law_434 ?_
                          obtain rfl := ret1 h
                          exact absurd (show (0 : Int32) = 1 from hC) (by decide)
                      · rw [if_neg c9] at h
                        by_cases c10 : (x1 &&& (31 : Int32)) = (10 : Int32)
                        · rw [if_pos c10] at h
                          refine j_tswIn (tgt := 436) hF c10 (by decide) (by decide) rfl (by decide) dL_law_32 ?_
                          refine j_aload_n hF rfl 1 rfl dL_law_436 ?_
                          refine j_aload_n hF rfl 0 rfl dL_law_437 ?_
                          refine j_iload_n hF rfl 3 rfl dL_law_438 ?_
                          refine j_iconst (v := (1 : Int32)) hF (by decide) dL_law_439 ?_
                          refine j_iadd hF dL_law_440 ?_
                          refine j_sld hF hB h dL_law_441 (fun h => ?_)
                          refine j_nmT h (fun x69 h => ?_)
                          obtain ⟨r70, S71, hr70, h⟩ := bnd_some h
                          refine j_callV_i (As := [.int x69]) (st := []) hF rfl mv_9_wrong (by decide) (s_0 E _) rfl bw_3_148 rfl (by decide) (Nat.le_of_ble_eq_true rfl) dL_law_442 (c9_wrong hr70) ?_
                          refine j_aload_n hF rfl 2 rfl dL_law_445 ?_
                          refine j_aload_n hF rfl 0 rfl dL_law_446 ?_
                          refine j_iload_n hF rfl 3 rfl dL_law_447 ?_
                          refine j_iconst (v := (1 : Int32)) hF (by decide) dL_law_448 ?_
                          refine j_iadd hF dL_law_449 ?_
                          refine j_sld hF hB h dL_law_450 (fun h => ?_)
                          refine j_nmT h (fun x72 h => ?_)
                          obtain ⟨r73, S74, hr73, h⟩ := bnd_some h
                          refine j_callV_i (As := [.int x72]) (st := [.int r70]) hF rfl mv_10_wrong (by decide) (s_57 E _) rfl bw_5_75 rfl (by decide) (Nat.le_of_ble_eq_true rfl) dL_law_451 (c10_wrong hr73) ?_
                          refine j_icmp_eq (tgt := 744) hF h (by decide) dL_law_454 (fun h => ?_) (fun h => ?_)
                          · exact tL_law_b744 hB hZ hF h hC
                          · refine j_iconst (v := (0 : Int32)) hF (by decide) dL_law_457 ?_
                            obtain rfl := ret1 h
                            exact absurd (show (0 : Int32) = 1 from hC) (by decide)
                        · rw [if_neg c10] at h
                          by_cases c11 : (x1 &&& (31 : Int32)) = (11 : Int32)
                          · rw [if_pos c11] at h
                            refine j_tswIn (tgt := 459) hF c11 (by decide) (by decide) rfl (by decide) dL_law_32 ?_
                            refine j_aload_n hF rfl 1 rfl dL_law_459 ?_
                            refine j_aload_n hF rfl 0 rfl dL_law_460 ?_
                            refine j_iload_n hF rfl 3 rfl dL_law_461 ?_
                            refine j_iconst (v := (1 : Int32)) hF (by decide) dL_law_462 ?_
                            refine j_iadd hF dL_law_463 ?_
                            refine j_sld hF hB h dL_law_464 (fun h => ?_)
                            refine j_nmT h (fun x75 h => ?_)
                            obtain ⟨r76, S77, hr76, h⟩ := bnd_some h
                            refine j_callV_i (As := [.int x75]) (st := []) hF rfl mv_9_next (by decide) (s_0 E _) rfl bw_3_160 rfl (by decide) (Nat.le_of_ble_eq_true rfl) dL_law_465 (c9_next hr76) ?_
                            refine j_aload_n hF rfl 2 rfl dL_law_468 ?_
                            refine j_aload_n hF rfl 0 rfl dL_law_469 ?_
                            refine j_iload_n hF rfl 3 rfl dL_law_470 ?_
                            refine j_iconst (v := (1 : Int32)) hF (by decide) dL_law_471 ?_
                            refine j_iadd hF dL_law_472 ?_
                            refine j_sld hF hB h dL_law_473 (fun h => ?_)
                            refine j_nmT h (fun x78 h => ?_)
                            obtain ⟨r79, S80, hr79, h⟩ := bnd_some h
                            refine j_callV_i (As := [.int x78]) (st := [.int r76]) hF rfl mv_10_next (by decide) (s_57 E _) rfl bw_5_82 rfl (by decide) (Nat.le_of_ble_eq_true rfl) dL_law_474 (c10_next hr79) ?_
                            refine j_icmp_eq (tgt := 744) hF h (by decide) dL_law_477 (fun h => ?_) (fun h => ?_)
                            · exact tL_law_b744 hB hZ hF h hC
                            · refine j_iconst (v := (0 : Int32)) hF (by decide) dL_law_480 ?_
                              obtain rfl := ret1 h
                              exact absurd (show (0 : Int32) = 1 from hC) (by decide)
                          · rw [if_neg c11] at h
                            by_cases c12 : (x1 &&& (31 : Int32)) = (12 : Int32)
                            · rw [if_pos c12] at h
                              refine j_tswIn (tgt := 482) hF c12 (by decide) (by decide) rfl (by decide) dL_law_32 ?_
                              refine j_aload_n hF rfl 1 rfl dL_law_482 ?_
                              refine j_aload_n hF rfl 0 rfl dL_law_483 ?_
                              refine j_iload_n hF rfl 3 rfl dL_law_484 ?_
                              refine j_iconst (v := (1 : Int32)) hF (by decide) dL_law_485 ?_
                              refine j_iadd hF dL_law_486 ?_
                              refine j_sld hF hB h dL_law_487 (fun h => ?_)
                              refine j_nmT h (fun x81 h => ?_)
                              obtain ⟨r82, S83, hr82, h⟩ := bnd_some h
                              refine j_callV_i (As := [.int x81]) (st := []) hF rfl mv_9_fewest (by decide) (s_0 E _) rfl bw_3_193 rfl (by decide) (Nat.le_of_ble_eq_true rfl) dL_law_488 (c9_fewest hr82) ?_
                              refine j_aload_n hF rfl 2 rfl dL_law_491 ?_
                              refine j_aload_n hF rfl 0 rfl dL_law_492 ?_
                              refine j_iload_n hF rfl 3 rfl dL_law_493 ?_
                              refine j_iconst (v := (1 : Int32)) hF (by decide) dL_law_494 ?_
                              refine j_iadd hF dL_law_495 ?_
                              refine j_sld hF hB h dL_law_496 (fun h => ?_)
                              refine j_nmT h (fun x84 h => ?_)
                              obtain ⟨r85, S86, hr85, h⟩ := bnd_some h
                              refine j_callV_i (As := [.int x84]) (st := [.int r82]) hF rfl mv_10_fewest (by decide) (s_57 E _) rfl bw_5_90 rfl (by decide) (Nat.le_of_ble_eq_true rfl) dL_law_497 (c10_fewest hr85) ?_
                              refine j_icmp_eq (tgt := 744) hF h (by decide) dL_law_500 (fun h => ?_) (fun h => ?_)
                              · exact tL_law_b744 hB hZ hF h hC
                              · refine j_iconst (v := (0 : Int32)) hF (by decide) dL_law_503 ?_
                                obtain rfl := ret1 h
                                exact absurd (show (0 : Int32) = 1 from hC) (by decide)
                            · rw [if_neg c12] at h
                              by_cases c13 : (x1 &&& (31 : Int32)) = (13 : Int32)
                              · rw [if_pos c13] at h
                                refine j_tswIn (tgt := 505) hF c13 (by decide) (by decide) rfl (by decide) dL_law_32 ?_
                                refine j_aload_n hF rfl 1 rfl dL_law_505 ?_
                                refine j_aload_n hF rfl 0 rfl dL_law_506 ?_
                                refine j_iload_n hF rfl 3 rfl dL_law_507 ?_
                                refine j_iconst (v := (1 : Int32)) hF (by decide) dL_law_508 ?_
                                refine j_iadd hF dL_law_509 ?_
                                refine j_sld hF hB h dL_law_510 (fun h => ?_)
                                refine j_nmT h (fun x87 h => ?_)
                                obtain ⟨r88, S89, hr88, h⟩ := bnd_some h
                                refine j_callV_i (As := [.int x87]) (st := []) hF rfl mv_9_laugh (by decide) (s_0 E _) rfl bw_3_216 rfl (by decide) (Nat.le_of_ble_eq_true rfl) dL_law_511 (c9_laugh hr88) ?_
                                refine j_aload_n hF rfl 2 rfl dL_law_514 ?_
                                refine j_aload_n hF rfl 0 rfl dL_law_515 ?_
                                refine j_iload_n hF rfl 3 rfl dL_law_516 ?_
                                refine j_iconst (v := (1 : Int32)) hF (by decide) dL_law_517 ?_
                                refine j_iadd hF dL_law_518 ?_
                                refine j_sld hF hB h dL_law_519 (fun h => ?_)
                                refine j_nmT h (fun x90 h => ?_)
                                obtain ⟨r91, S92, hr91, h⟩ := bnd_some h
                                refine j_callV_i (As := [.int x90]) (st := [.int r88]) hF rfl mv_10_laugh (by decide) (s_57 E _) rfl bw_5_111 rfl (by decide) (Nat.le_of_ble_eq_true rfl) dL_law_520 (c10_laugh hr91) ?_
                                refine j_icmp_eq (tgt := 744) hF h (by decide) dL_law_523 (fun h => ?_) (fun h => ?_)
                                · exact tL_law_b744 hB hZ hF h hC
                                · refine j_iconst (v := (0 : Int32)) hF (by decide) dL_law_526 ?_
                                  obtain rfl := ret1 h
                                  exact absurd (show (0 : Int32) = 1 from hC) (by decide)
                              · rw [if_neg c13] at h
                                by_cases c14 : (x1 &&& (31 : Int32)) = (14 : Int32)
                                · rw [if_pos c14] at h
                                  refine j_tswIn (tgt := 528) hF c14 (by decide) (by decide) rfl (by decide) dL_law_32 ?_
                                  refine j_aload_n hF rfl 1 rfl dL_law_528 ?_
                                  refine j_aload_n hF rfl 0 rfl dL_law_529 ?_
                                  refine j_iload_n hF rfl 3 rfl dL_law_530 ?_
                                  refine j_iconst (v := (1 : Int32)) hF (by decide) dL_law_531 ?_
                                  refine j_iadd hF dL_law_532 ?_
                                  refine j_sld hF hB h dL_law_533 (fun h => ?_)
                                  refine j_nmT h (fun x93 h => ?_)
                                  refine j_aload_n hF rfl 0 rfl dL_law_534 ?_
                                  refine j_iload_n hF rfl 3 rfl dL_law_535 ?_
                                  refine j_iconst (v := (2 : Int32)) hF (by decide) dL_law_536 ?_
                                  refine j_iadd hF dL_law_537 ?_
                                  refine j_sld hF hB h dL_law_538 (fun h => ?_)
                                  refine j_nmT h (fun x94 h => ?_)
                                  refine j_aload_n hF rfl 0 rfl dL_law_539 ?_
                                  refine j_iload_n hF rfl 3 rfl dL_law_540 ?_
                                  refine j_iconst (v := (3 : Int32)) hF (by decide) dL_law_541 ?_
                                  refine j_iadd hF dL_law_542 ?_
                                  refine j_sld hF hB h dL_law_543 (fun h => ?_)
                                  refine j_nmT h (fun x95 h => ?_)
                                  refine j_aload_n hF rfl 0 rfl dL_law_544 ?_
                                  refine j_iload_n hF rfl 3 rfl dL_law_545 ?_
                                  refine j_iconst (v := (4 : Int32)) hF (by decide) dL_law_546 ?_
                                  refine j_iadd hF dL_law_547 ?_
                                  refine j_sld hF hB h dL_law_548 (fun h => ?_)
                                  refine j_nmT h (fun x96 h => ?_)
                                  obtain ⟨r97, S98, hr97, h⟩ := bnd_some h
                                  refine j_callV_l (As := [.int x93, .int x94, .int x95, .int x96]) (st := []) hF rfl mv_9_odds (by decide) (s_0 E _) rfl bw_3_224 rfl (by decide) (Nat.le_of_ble_eq_true rfl) dL_law_549 (c9_odds hr97) ?_
                                  refine j_aload_n hF rfl 2 rfl dL_law_552 ?_
                                  refine j_aload_n hF rfl 0 rfl dL_law_553 ?_
                                  refine j_iload_n hF rfl 3 rfl dL_law_554 ?_
                                  refine j_iconst (v := (1 : Int32)) hF (by decide) dL_law_555 ?_
                                  refine j_iadd hF dL_law_556 ?_
                                  refine j_sld hF hB h dL_law_557 (fun h => ?_)
                                  refine j_nmT h (fun x99 h => ?_)
                                  refine j_aload_n hF rfl 0 rfl dL_law_558 ?_
                                  refine j_iload_n hF rfl 3 rfl dL_law_559 ?_
                                  refine j_iconst (v := (2 : Int32)) hF (by decide) dL_law_560 ?_
                                  refine j_iadd hF dL_law_561 ?_
                                  refine j_sld hF hB h dL_law_562 (fun h => ?_)
                                  refine j_nmT h (fun x100 h => ?_)
                                  refine j_aload_n hF rfl 0 rfl dL_law_563 ?_
                                  refine j_iload_n hF rfl 3 rfl dL_law_564 ?_
                                  refine j_iconst (v := (3 : Int32)) hF (by decide) dL_law_565 ?_
                                  refine j_iadd hF dL_law_566 ?_
                                  refine j_sld hF hB h dL_law_567 (fun h => ?_)
                                  refine j_nmT h (fun x101 h => ?_)
                                  refine j_aload_n hF rfl 0 rfl dL_law_568 ?_
                                  refine j_iload_n hF rfl 3 rfl dL_law_569 ?_
                                  refine j_iconst (v := (4 : Int32)) hF (by decide) dL_law_570 ?_
                                  refine j_iadd hF dL_law_571 ?_
                                  refine j_sld hF hB h dL_law_572 (fun h => ?_)
                                  refine j_nmT h (fun x102 h => ?_)
                                  obtain ⟨r103, S104, hr103, h⟩ := bnd_some h
                                  refine j_callV_l (As := [.int x99, .int x100, .int x101, .int x102]) (st := [.long r97]) hF rfl mv_10_odds (by decide) (s_57 E _) rfl bw_5_115 rfl (by decide) (Nat.le_of_ble_eq_true rfl) dL_law_573 (c10_odds hr103) ?_
                                  refine j_lcmp hF dL_law_576 ?_
                                  refine j_if_eq (tgt := 744) hF h (by decide) dL_law_577 (fun h => ?_) (fun h => ?_)
                                  · exact tL_law_b744 hB hZ hF h hC
                                  · refine j_iconst (v := (0 : Int32)) hF (by decide) dL_law_580 ?_
                                    obtain rfl := ret1 h
                                    exact absurd (show (0 : Int32) = 1 from hC) (by decide)
                                · rw [if_neg c14] at h
                                  by_cases c15 : (x1 &&& (31 : Int32)) = (15 : Int32)
                                  · rw [if_pos c15] at h
                                    refine j_tswIn (tgt := 582) hF c15 (by decide) (by decide) rfl (by decide) dL_law_32 ?_
                                    refine j_aload_n hF rfl 1 rfl dL_law_582 ?_
                                    refine j_aload_n hF rfl 0 rfl dL_law_583 ?_
                                    refine j_iload_n hF rfl 3 rfl dL_law_584 ?_
                                    refine j_iconst (v := (1 : Int32)) hF (by decide) dL_law_585 ?_
                                    refine j_iadd hF dL_law_586 ?_
                                    refine j_sld hF hB h dL_law_587 (fun h => ?_)
                                    refine j_nmT h (fun x105 h => ?_)
                                    refine j_aload_n hF rfl 0 rfl dL_law_588 ?_
                                    refine j_iload_n hF rfl 3 rfl dL_law_589 ?_
                                    refine j_iconst (v := (2 : Int32)) hF (by decide) dL_law_590 ?_
                                    refine j_iadd hF dL_law_591 ?_
                                    refine j_sld hF hB h dL_law_592 (fun h => ?_)
                                    refine j_nmT h (fun x106 h => ?_)
                                    obtain ⟨r107, hr107, h⟩ := bnp_some h
                                    refine j_callV_i (As := [.int x105, .int x106]) (st := []) hF rfl mv_9_sack (by decide) (s_0 E _) rfl bw_4_11 rfl (by decide) (Nat.le_of_ble_eq_true rfl) dL_law_593 (c9_sack hr107) ?_
                                    refine j_aload_n hF rfl 2 rfl dL_law_596 ?_
                                    refine j_aload_n hF rfl 0 rfl dL_law_597 ?_
                                    refine j_iload_n hF rfl 3 rfl dL_law_598 ?_
                                    refine j_iconst (v := (1 : Int32)) hF (by decide) dL_law_599 ?_
                                    refine j_iadd hF dL_law_600 ?_
                                    refine j_sld hF hB h dL_law_601 (fun h => ?_)
                                    refine j_nmT h (fun x108 h => ?_)
                                    refine j_aload_n hF rfl 0 rfl dL_law_602 ?_
                                    refine j_iload_n hF rfl 3 rfl dL_law_603 ?_
                                    refine j_iconst (v := (2 : Int32)) hF (by decide) dL_law_604 ?_
                                    refine j_iadd hF dL_law_605 ?_
                                    refine j_sld hF hB h dL_law_606 (fun h => ?_)
                                    refine j_nmT h (fun x109 h => ?_)
                                    obtain ⟨r110, hr110, h⟩ := bnp_some h
                                    refine j_callV_i (As := [.int x108, .int x109]) (st := [.int r107]) hF rfl mv_10_sack (by decide) (s_57 E _) rfl bw_5_124 rfl (by decide) (Nat.le_of_ble_eq_true rfl) dL_law_607 (c10_sack hr110) ?_
                                    refine j_icmp_eq (tgt := 744) hF h (by decide) dL_law_610 (fun h => ?_) (fun h => ?_)
                                    · exact tL_law_b744 hB hZ hF h hC
                                    · refine j_iconst (v := (0 : Int32)) hF (by decide) dL_law_613 ?_
                                      obtain rfl := ret1 h
                                      exact absurd (show (0 : Int32) = 1 from hC) (by decide)
                                  · rw [if_neg c15] at h
                                    by_cases c16 : (x1 &&& (31 : Int32)) = (16 : Int32)
                                    · rw [if_pos c16] at h
                                      refine j_tswIn (tgt := 615) hF c16 (by decide) (by decide) rfl (by decide) dL_law_32 ?_
                                      refine j_aload_n hF rfl 1 rfl dL_law_615 ?_
                                      obtain ⟨r111, S112, hr111, h⟩ := bnd_some h
                                      refine j_callV_i (As := []) (st := []) hF rfl mv_9_byTurns (by decide) (s_0 E _) rfl bw_4_23 rfl (by decide) (Nat.le_of_ble_eq_true rfl) dL_law_616 (c9_byTurns hr111) ?_
                                      refine j_aload_n hF rfl 2 rfl dL_law_619 ?_
                                      obtain ⟨r113, S114, hr113, h⟩ := bnd_some h
                                      refine j_callV_i (As := []) (st := [.int r111]) hF rfl mv_10_byTurns (by decide) (s_57 E _) rfl bw_5_128 rfl (by decide) (Nat.le_of_ble_eq_true rfl) dL_law_620 (c10_byTurns hr113) ?_
                                      refine j_icmp_eq (tgt := 744) hF h (by decide) dL_law_623 (fun h => ?_) (fun h => ?_)
                                      · exact tL_law_b744 hB hZ hF h hC
                                      · refine j_iconst (v := (0 : Int32)) hF (by decide) dL_law_626 ?_
                                        obtain rfl := ret1 h
                                        exact absurd (show (0 : Int32) = 1 from hC) (by decide)
                                    · rw [if_neg c16] at h
                                      by_cases c17 : (x1 &&& (31 : Int32)) = (17 : Int32)
                                      · rw [if_pos c17] at h
                                        refine j_tswIn (tgt := 628) hF c17 (by decide) (by decide) rfl (by decide) dL_law_32 ?_
                                        refine j_aload_n hF rfl 1 rfl dL_law_628 ?_
                                        refine j_aload_n hF rfl 0 rfl dL_law_629 ?_
                                        refine j_iload_n hF rfl 3 rfl dL_law_630 ?_
                                        refine j_iconst (v := (1 : Int32)) hF (by decide) dL_law_631 ?_
                                        refine j_iadd hF dL_law_632 ?_
                                        refine j_sld hF hB h dL_law_633 (fun h => ?_)
                                        refine j_nmT h (fun x115 h => ?_)
                                        refine j_aload_n hF rfl 0 rfl dL_law_634 ?_
                                        refine j_iload_n hF rfl 3 rfl dL_law_635 ?_
                                        refine j_iconst (v := (2 : Int32)) hF (by decide) dL_law_636 ?_
                                        refine j_iadd hF dL_law_637 ?_
                                        refine j_sld hF hB h dL_law_638 (fun h => ?_)
                                        refine j_nmT h (fun x116 h => ?_)
                                        obtain ⟨r117, S118, hr117, h⟩ := bnd_some h
                                        refine j_callV_i (As := [.int x115, .int x116]) (st := []) hF rfl mv_9_mark (by decide) (s_0 E _) rfl bw_4_40 rfl (by decide) (Nat.le_of_ble_eq_true rfl) dL_law_639 (c9_mark hr117) ?_
                                        refine j_aload_n hF rfl 2 rfl dL_law_642 ?_
                                        refine j_aload_n hF rfl 0 rfl dL_law_643 ?_
                                        refine j_iload_n hF rfl 3 rfl dL_law_644 ?_
                                        refine j_iconst (v := (1 : Int32)) hF (by decide) dL_law_645 ?_
                                        refine j_iadd hF dL_law_646 ?_
                                        refine j_sld hF hB h dL_law_647 (fun h => ?_)
                                        refine j_nmT h (fun x119 h => ?_)
                                        refine j_aload_n hF rfl 0 rfl dL_law_648 ?_
                                        refine j_iload_n hF rfl 3 rfl dL_law_649 ?_
                                        refine j_iconst (v := (2 : Int32)) hF (by decide) dL_law_650 ?_
                                        refine j_iadd hF dL_law_651 ?_
                                        refine j_sld hF hB h dL_law_652 (fun h => ?_)
                                        refine j_nmT h (fun x120 h => ?_)
                                        obtain ⟨r121, S122, hr121, h⟩ := bnd_some h
                                        refine j_callV_i (As := [.int x119, .int x120]) (st := [.int r117]) hF rfl mv_10_mark (by decide) (s_57 E _) rfl bw_5_132 rfl (by decide) (Nat.le_of_ble_eq_true rfl) dL_law_653 (c10_mark hr121) ?_
                                        refine j_icmp_eq (tgt := 744) hF h (by decide) dL_law_656 (fun h => ?_) (fun h => ?_)
                                        · exact tL_law_b744 hB hZ hF h hC
                                        · refine j_iconst (v := (0 : Int32)) hF (by decide) dL_law_659 ?_
                                          obtain rfl := ret1 h
                                          exact absurd (show (0 : Int32) = 1 from hC) (by decide)
                                      · rw [if_neg c17] at h
                                        by_cases c18 : (x1 &&& (31 : Int32)) = (18 : Int32)
                                        · rw [if_pos c18] at h
                                          refine j_tswIn (tgt := 661) hF c18 (by decide) (by decide) rfl (by decide) dL_law_32 ?_
                                          refine j_aload_n hF rfl 1 rfl dL_law_661 ?_
                                          refine j_aload_n hF rfl 0 rfl dL_law_662 ?_
                                          refine j_iload_n hF rfl 3 rfl dL_law_663 ?_
                                          refine j_iconst (v := (1 : Int32)) hF (by decide) dL_law_664 ?_
                                          refine j_iadd hF dL_law_665 ?_
                                          refine j_sld hF hB h dL_law_666 (fun h => ?_)
                                          refine j_nmT h (fun x123 h => ?_)
                                          obtain ⟨r124, S125, hr124, h⟩ := bnd_some h
                                          refine j_callV_i (As := [.int x123]) (st := []) hF rfl mv_9_keep (by decide) (s_0 E _) rfl bw_4_87 rfl (by decide) (Nat.le_of_ble_eq_true rfl) dL_law_667 (c9_keep hr124) ?_
                                          refine j_aload_n hF rfl 2 rfl dL_law_670 ?_
                                          refine j_aload_n hF rfl 0 rfl dL_law_671 ?_
                                          refine j_iload_n hF rfl 3 rfl dL_law_672 ?_
                                          refine j_iconst (v := (1 : Int32)) hF (by decide) dL_law_673 ?_
                                          refine j_iadd hF dL_law_674 ?_
                                          refine j_sld hF hB h dL_law_675 (fun h => ?_)
                                          refine j_nmT h (fun x126 h => ?_)
                                          obtain ⟨r127, S128, hr127, h⟩ := bnd_some h
                                          refine j_callV_i (As := [.int x126]) (st := [.int r124]) hF rfl mv_10_keep (by decide) (s_57 E _) rfl bw_5_142 rfl (by decide) (Nat.le_of_ble_eq_true rfl) dL_law_676 (c10_keep hr127) ?_
                                          refine j_icmp_eq (tgt := 744) hF h (by decide) dL_law_679 (fun h => ?_) (fun h => ?_)
                                          · exact tL_law_b744 hB hZ hF h hC
                                          · refine j_iconst (v := (0 : Int32)) hF (by decide) dL_law_682 ?_
                                            obtain rfl := ret1 h
                                            exact absurd (show (0 : Int32) = 1 from hC) (by decide)
                                        · rw [if_neg c18] at h
                                          by_cases c19 : (x1 &&& (31 : Int32)) = (19 : Int32)
                                          · rw [if_pos c19] at h
                                            refine j_tswIn (tgt := 684) hF c19 (by decide) (by decide) rfl (by decide) dL_law_32 ?_
                                            refine j_aload_n hF rfl 1 rfl dL_law_684 ?_
                                            refine j_aload_n hF rfl 0 rfl dL_law_685 ?_
                                            refine j_iload_n hF rfl 3 rfl dL_law_686 ?_
                                            refine j_iconst (v := (1 : Int32)) hF (by decide) dL_law_687 ?_
                                            refine j_iadd hF dL_law_688 ?_
                                            refine j_sld hF hB h dL_law_689 (fun h => ?_)
                                            refine j_nmT h (fun x129 h => ?_)
                                            obtain ⟨r130, S131, hr130, h⟩ := bnd_some h
                                            refine j_callV_i (As := [.int x129]) (st := []) hF rfl mv_9_back (by decide) (s_0 E _) rfl bw_4_104 rfl (by decide) (Nat.le_of_ble_eq_true rfl) dL_law_690 (c9_back hr130) ?_
                                            refine j_aload_n hF rfl 2 rfl dL_law_693 ?_
                                            refine j_aload_n hF rfl 0 rfl dL_law_694 ?_
                                            refine j_iload_n hF rfl 3 rfl dL_law_695 ?_
                                            refine j_iconst (v := (1 : Int32)) hF (by decide) dL_law_696 ?_
                                            refine j_iadd hF dL_law_697 ?_
                                            refine j_sld hF hB h dL_law_698 (fun h => ?_)
                                            refine j_nmT h (fun x132 h => ?_)
                                            obtain ⟨r133, S134, hr133, h⟩ := bnd_some h
                                            refine j_callV_i (As := [.int x132]) (st := [.int r130]) hF rfl mv_10_back (by decide) (s_57 E _) rfl bw_5_150 rfl (by decide) (Nat.le_of_ble_eq_true rfl) dL_law_699 (c10_back hr133) ?_
                                            refine j_icmp_eq (tgt := 744) hF h (by decide) dL_law_702 (fun h => ?_) (fun h => ?_)
                                            · exact tL_law_b744 hB hZ hF h hC
                                            · refine j_iconst (v := (0 : Int32)) hF (by decide) dL_law_705 ?_
                                              obtain rfl := ret1 h
                                              exact absurd (show (0 : Int32) = 1 from hC) (by decide)
                                          · rw [if_neg c19] at h
                                            by_cases c20 : (x1 &&& (31 : Int32)) = (20 : Int32)
                                            · rw [if_pos c20] at h
                                              refine j_tswIn (tgt := 707) hF c20 (by decide) (by decide) rfl (by decide) dL_law_32 ?_
                                              refine j_aload_n hF rfl 1 rfl dL_law_707 ?_
                                              refine j_aload_n hF rfl 0 rfl dL_law_708 ?_
                                              refine j_iload_n hF rfl 3 rfl dL_law_709 ?_
                                              refine j_iconst (v := (1 : Int32)) hF (by decide) dL_law_710 ?_
                                              refine j_iadd hF dL_law_711 ?_
                                              refine j_sld hF hB h dL_law_712 (fun h => ?_)
                                              refine j_nmT h (fun x135 h => ?_)
                                              obtain ⟨r136, hr136, h⟩ := bnp_some h
                                              refine j_callV_i (As := [.int x135]) (st := []) hF rfl mv_9_count (by decide) (s_0 E _) rfl bw_4_117 rfl (by decide) (Nat.le_of_ble_eq_true rfl) dL_law_713 (c9_count hr136) ?_
                                              refine j_aload_n hF rfl 2 rfl dL_law_716 ?_
                                              refine j_aload_n hF rfl 0 rfl dL_law_717 ?_
                                              refine j_iload_n hF rfl 3 rfl dL_law_718 ?_
                                              refine j_iconst (v := (1 : Int32)) hF (by decide) dL_law_719 ?_
                                              refine j_iadd hF dL_law_720 ?_
                                              refine j_sld hF hB h dL_law_721 (fun h => ?_)
                                              refine j_nmT h (fun x137 h => ?_)
                                              obtain ⟨r138, hr138, h⟩ := bnp_some h
                                              refine j_callV_i (As := [.int x137]) (st := [.int r136]) hF rfl mv_10_count (by decide) (s_57 E _) rfl bw_5_154 rfl (by decide) (Nat.le_of_ble_eq_true rfl) dL_law_722 (c10_count hr138) ?_
                                              refine j_icmp_eq (tgt := 744) hF h (by decide) dL_law_725 (fun h => ?_) (fun h => ?_)
                                              · exact tL_law_b744 hB hZ hF h hC
                                              · refine j_iconst (v := (0 : Int32)) hF (by decide) dL_law_728 ?_
                                                obtain rfl := ret1 h
                                                exact absurd (show (0 : Int32) = 1 from hC) (by decide)
                                            · rw [if_neg c20] at h
                                              by_cases c21 : (x1 &&& (31 : Int32)) = (21 : Int32)
                                              · rw [if_pos c21] at h
                                                refine j_tswIn (tgt := 730) hF c21 (by decide) (by decide) rfl (by decide) dL_law_32 ?_
                                                refine j_aload_n hF rfl 1 rfl dL_law_730 ?_
                                                obtain ⟨r139, hr139, h⟩ := bnp_some h
                                                refine j_callV_l (As := []) (st := []) hF rfl mv_9_trace (by decide) (s_0 E _) rfl bw_4_121 rfl (by decide) (Nat.le_of_ble_eq_true rfl) dL_law_731 (c9_trace hr139) ?_
                                                refine j_aload_n hF rfl 2 rfl dL_law_734 ?_
                                                obtain ⟨r140, hr140, h⟩ := bnp_some h
                                                refine j_callV_l (As := []) (st := [.long r139]) hF rfl mv_10_trace (by decide) (s_57 E _) rfl bw_5_158 rfl (by decide) (Nat.le_of_ble_eq_true rfl) dL_law_735 (c10_trace hr140) ?_
                                                refine j_lcmp hF dL_law_738 ?_
                                                refine j_if_eq (tgt := 744) hF h (by decide) dL_law_739 (fun h => ?_) (fun h => ?_)
                                                · exact tL_law_b744 hB hZ hF h hC
                                                · refine j_iconst (v := (0 : Int32)) hF (by decide) dL_law_742 ?_
                                                  obtain rfl := ret1 h
                                                  exact absurd (show (0 : Int32) = 1 from hC) (by decide)
                                              · rw [if_neg c21] at h
                                                have e0 : (x1 &&& (31 : Int32)).toInt ≠ 0 := ne_toInt c0
                                                have e1 : (x1 &&& (31 : Int32)).toInt ≠ 1 := ne_toInt c1
                                                have e2 : (x1 &&& (31 : Int32)).toInt ≠ 2 := ne_toInt c2
                                                have e3 : (x1 &&& (31 : Int32)).toInt ≠ 3 := ne_toInt c3
                                                have e4 : (x1 &&& (31 : Int32)).toInt ≠ 4 := ne_toInt c4
                                                have e5 : (x1 &&& (31 : Int32)).toInt ≠ 5 := ne_toInt c5
                                                have e6 : (x1 &&& (31 : Int32)).toInt ≠ 6 := ne_toInt c6
                                                have e7 : (x1 &&& (31 : Int32)).toInt ≠ 7 := ne_toInt c7
                                                have e8 : (x1 &&& (31 : Int32)).toInt ≠ 8 := ne_toInt c8
                                                have e9 : (x1 &&& (31 : Int32)).toInt ≠ 9 := ne_toInt c9
                                                have e10 : (x1 &&& (31 : Int32)).toInt ≠ 10 := ne_toInt c10
                                                have e11 : (x1 &&& (31 : Int32)).toInt ≠ 11 := ne_toInt c11
                                                have e12 : (x1 &&& (31 : Int32)).toInt ≠ 12 := ne_toInt c12
                                                have e13 : (x1 &&& (31 : Int32)).toInt ≠ 13 := ne_toInt c13
                                                have e14 : (x1 &&& (31 : Int32)).toInt ≠ 14 := ne_toInt c14
                                                have e15 : (x1 &&& (31 : Int32)).toInt ≠ 15 := ne_toInt c15
                                                have e16 : (x1 &&& (31 : Int32)).toInt ≠ 16 := ne_toInt c16
                                                have e17 : (x1 &&& (31 : Int32)).toInt ≠ 17 := ne_toInt c17
                                                have e18 : (x1 &&& (31 : Int32)).toInt ≠ 18 := ne_toInt c18
                                                have e19 : (x1 &&& (31 : Int32)).toInt ≠ 19 := ne_toInt c19
                                                have e20 : (x1 &&& (31 : Int32)).toInt ≠ 20 := ne_toInt c20
                                                have e21 : (x1 &&& (31 : Int32)).toInt ≠ 21 := ne_toInt c21
                                                refine j_tswOut (tgt := 744) hF (by omega) (by decide) dL_law_32 ?_
                                                exact tL_law_b744 hB hZ hF h hC
set_option maxHeartbeats 4000000 in
theorem tL_law_b750 {E : En} {X : Cx} {Q : State → Prop} {N : Nat} {xs : Nat → Int32} {L : Nat} {b : Nat} {S : Mem} {o : (Int32 × Mem)} (hB : SX X b L xs) (hZ : LawZ X Q) (hF : Fx E X cL_law RL 4 (some .boolean) 9) (h : fL_law_b750 N xs L S = some o) (hC : o.1 = (1 : Int32)) : J E X Q S 750 [] [] := by
  unfold fL_law_b750 at h
  refine j_iconst (v := (1 : Int32)) hF (by decide) dL_law_750 ?_
  obtain rfl := ret1 h
  exact j_lawret hF hZ dL_law_751
set_option maxHeartbeats 4000000 in
theorem tL_law {E : En} {X : Cx} {Q : State → Prop} {N : Nat} {xs : Nat → Int32} {L : Nat} {b : Nat} {S : Mem} {o : Int32 × Mem} (hB : SX X b L xs) (hZ : LawZ X Q) (hF : Fx E X cL_law RL 4 (some .boolean) 9) (h : fL_law N xs L S = some o) (hC : o.1 = (1 : Int32)) : J E X Q S 16 [(0, .ref b), (1, .ref (eA E 0)), (2, .ref (eA E 57))] [] := by
  unfold fL_law at h
  refine j_iconst (v := (0 : Int32)) hF (by decide) dL_law_16 ?_
  refine j_istore_n (lv' := [(3, .int (0 : Int32)), (0, .ref b), (1, .ref (eA E 0)), (2, .ref (eA E 57))]) hF rfl (by decide) rfl dL_law_17 ?_
  obtain ⟨z141, hz141, h⟩ := bnp_some h
  refine j_sub (lv' := [(0, .ref b), (1, .ref (eA E 0)), (2, .ref (eA E 57)), (3, .int (0 : Int32))]) hF [1, 2, 3, 0] rfl ?_
  have hx : (Sum.elim (fun (r : (Int32 × Mem)) => r.1 = (1 : Int32)) (fun (x : (Mem)) => J E X Q x 750 [] [])) z141 := by
    cases z141 with
    | inl rr =>
      have h : some (rr) = some o := h
      obtain rfl := ret1 h
      exact hC
    | inr x =>
      have h : fL_law_b750 N xs L x = some o := h
      exact tL_law_b750 hB hZ hF h hC
  exact lp_rule (Jh := fun (s : (Int32 × Mem)) => J E X Q s.2 18 [(0, .ref b), (1, .ref (eA E 0)), (2, .ref (eA E 57)), (3, .int s.1)] []) (C := Sum.elim (fun (r : (Int32 × Mem)) => r.1 = (1 : Int32)) (fun (x : (Mem)) => J E X Q x 750 [] [])) (fun s o h hC => tL_law_L18 hB hZ hF h hC) N ((0 : Int32), S) z141 hz141 hx
