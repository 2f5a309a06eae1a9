theorem j_iadd {E : En} {X : Cx} {Q : State → Prop} {S : Mem} {cc : ByteArray} {own : String} {nL d pc : Nat} {ret : Option FieldType} {lv : List (Nat × Value)} {st : List Value} (hF : Fx E X cc own nL ret d) {x y : Int32} (hd : decode cc pc = .ok (.iadd, 1)) (k : J E X Q S (pc + 1) lv (.int (x + y) :: st)) : J E X Q S pc lv (.int y :: .int x :: st) := by
  rcases X with ⟨p, l, e, R, s, m, args, below, meth, c, n0, A, cells, slots⟩
  obtain ⟨hx, hb, hml, hn0, hown, hts, hK, hStr, hLit, hr, hlocks, hl0, hd1, hd2, hd3, hd4⟩ := hF
  intro H locs ls hP hD hS hl
  exact lv_iadd hx hb hd (k H locs ls hP hD hS hl)
theorem j_isub {E : En} {X : Cx} {Q : State → Prop} {S : Mem} {cc : ByteArray} {own : String} {nL d pc : Nat} {ret : Option FieldType} {lv : List (Nat × Value)} {st : List Value} (hF : Fx E X cc own nL ret d) {x y : Int32} (hd : decode cc pc = .ok (.isub, 1)) (k : J E X Q S (pc + 1) lv (.int (x - y) :: st)) : J E X Q S pc lv (.int y :: .int x :: st) := by
  rcases X with ⟨p, l, e, R, s, m, args, below, meth, c, n0, A, cells, slots⟩
  obtain ⟨hx, hb, hml, hn0, hown, hts, hK, hStr, hLit, hr, hlocks, hl0, hd1, hd2, hd3, hd4⟩ := hF
  intro H locs ls hP hD hS hl
  exact lv_isub hx hb hd (k H locs ls hP hD hS hl)
theorem j_imul {E : En} {X : Cx} {Q : State → Prop} {S : Mem} {cc : ByteArray} {own : String} {nL d pc : Nat} {ret : Option FieldType} {lv : List (Nat × Value)} {st : List Value} (hF : Fx E X cc own nL ret d) {x y : Int32} (hd : decode cc pc = .ok (.imul, 1)) (k : J E X Q S (pc + 1) lv (.int (x * y) :: st)) : J E X Q S pc lv (.int y :: .int x :: st) := by
  rcases X with ⟨p, l, e, R, s, m, args, below, meth, c, n0, A, cells, slots⟩
  obtain ⟨hx, hb, hml, hn0, hown, hts, hK, hStr, hLit, hr, hlocks, hl0, hd1, hd2, hd3, hd4⟩ := hF
  intro H locs ls hP hD hS hl
  exact lv_imul hx hb hd (k H locs ls hP hD hS hl)
theorem j_iand {E : En} {X : Cx} {Q : State → Prop} {S : Mem} {cc : ByteArray} {own : String} {nL d pc : Nat} {ret : Option FieldType} {lv : List (Nat × Value)} {st : List Value} (hF : Fx E X cc own nL ret d) {x y : Int32} (hd : decode cc pc = .ok (.iand, 1)) (k : J E X Q S (pc + 1) lv (.int (x &&& y) :: st)) : J E X Q S pc lv (.int y :: .int x :: st) := by
  rcases X with ⟨p, l, e, R, s, m, args, below, meth, c, n0, A, cells, slots⟩
  obtain ⟨hx, hb, hml, hn0, hown, hts, hK, hStr, hLit, hr, hlocks, hl0, hd1, hd2, hd3, hd4⟩ := hF
  intro H locs ls hP hD hS hl
  exact lv_iand hx hb hd (k H locs ls hP hD hS hl)
theorem j_ior {E : En} {X : Cx} {Q : State → Prop} {S : Mem} {cc : ByteArray} {own : String} {nL d pc : Nat} {ret : Option FieldType} {lv : List (Nat × Value)} {st : List Value} (hF : Fx E X cc own nL ret d) {x y : Int32} (hd : decode cc pc = .ok (.ior, 1)) (k : J E X Q S (pc + 1) lv (.int (x ||| y) :: st)) : J E X Q S pc lv (.int y :: .int x :: st) := by
  rcases X with ⟨p, l, e, R, s, m, args, below, meth, c, n0, A, cells, slots⟩
  obtain ⟨hx, hb, hml, hn0, hown, hts, hK, hStr, hLit, hr, hlocks, hl0, hd1, hd2, hd3, hd4⟩ := hF
  intro H locs ls hP hD hS hl
  exact lv_ior hx hb hd (k H locs ls hP hD hS hl)
theorem j_ixor {E : En} {X : Cx} {Q : State → Prop} {S : Mem} {cc : ByteArray} {own : String} {nL d pc : Nat} {ret : Option FieldType} {lv : List (Nat × Value)} {st : List Value} (hF : Fx E X cc own nL ret d) {x y : Int32} (hd : decode cc pc = .ok (.ixor, 1)) (k : J E X Q S (pc + 1) lv (.int (x ^^^ y) :: st)) : J E X Q S pc lv (.int y :: .int x :: st) := by
  rcases X with ⟨p, l, e, R, s, m, args, below, meth, c, n0, A, cells, slots⟩
  obtain ⟨hx, hb, hml, hn0, hown, hts, hK, hStr, hLit, hr, hlocks, hl0, hd1, hd2, hd3, hd4⟩ := hF
  intro H locs ls hP hD hS hl
  exact lv_ixor hx hb hd (k H locs ls hP hD hS hl)
theorem j_ishl {E : En} {X : Cx} {Q : State → Prop} {S : Mem} {cc : ByteArray} {own : String} {nL d pc : Nat} {ret : Option FieldType} {lv : List (Nat × Value)} {st : List Value} (hF : Fx E X cc own nL ret d) {x y : Int32} (hd : decode cc pc = .ok (.ishl, 1)) (k : J E X Q S (pc + 1) lv (.int (x <<< (y &&& 31)) :: st)) : J E X Q S pc lv (.int y :: .int x :: st) := by
  rcases X with ⟨p, l, e, R, s, m, args, below, meth, c, n0, A, cells, slots⟩
  obtain ⟨hx, hb, hml, hn0, hown, hts, hK, hStr, hLit, hr, hlocks, hl0, hd1, hd2, hd3, hd4⟩ := hF
  intro H locs ls hP hD hS hl
  exact lv_ishl hx hb hd (k H locs ls hP hD hS hl)
theorem j_ishr {E : En} {X : Cx} {Q : State → Prop} {S : Mem} {cc : ByteArray} {own : String} {nL d pc : Nat} {ret : Option FieldType} {lv : List (Nat × Value)} {st : List Value} (hF : Fx E X cc own nL ret d) {x y : Int32} (hd : decode cc pc = .ok (.ishr, 1)) (k : J E X Q S (pc + 1) lv (.int (x >>> (y &&& 31)) :: st)) : J E X Q S pc lv (.int y :: .int x :: st) := by
  rcases X with ⟨p, l, e, R, s, m, args, below, meth, c, n0, A, cells, slots⟩
  obtain ⟨hx, hb, hml, hn0, hown, hts, hK, hStr, hLit, hr, hlocks, hl0, hd1, hd2, hd3, hd4⟩ := hF
  intro H locs ls hP hD hS hl
  exact lv_ishr hx hb hd (k H locs ls hP hD hS hl)
theorem j_ladd {E : En} {X : Cx} {Q : State → Prop} {S : Mem} {cc : ByteArray} {own : String} {nL d pc : Nat} {ret : Option FieldType} {lv : List (Nat × Value)} {st : List Value} (hF : Fx E X cc own nL ret d) {x y : Int64} (hd : decode cc pc = .ok (.ladd, 1)) (k : J E X Q S (pc + 1) lv (.long (x + y) :: st)) : J E X Q S pc lv (.long y :: .long x :: st) := by
  rcases X with ⟨p, l, e, R, s, m, args, below, meth, c, n0, A, cells, slots⟩
  obtain ⟨hx, hb, hml, hn0, hown, hts, hK, hStr, hLit, hr, hlocks, hl0, hd1, hd2, hd3, hd4⟩ := hF
  intro H locs ls hP hD hS hl
  exact lv_ladd hx hb hd (k H locs ls hP hD hS hl)
theorem j_lsub {E : En} {X : Cx} {Q : State → Prop} {S : Mem} {cc : ByteArray} {own : String} {nL d pc : Nat} {ret : Option FieldType} {lv : List (Nat × Value)} {st : List Value} (hF : Fx E X cc own nL ret d) {x y : Int64} (hd : decode cc pc = .ok (.lsub, 1)) (k : J E X Q S (pc + 1) lv (.long (x - y) :: st)) : J E X Q S pc lv (.long y :: .long x :: st) := by
  rcases X with ⟨p, l, e, R, s, m, args, below, meth, c, n0, A, cells, slots⟩
  obtain ⟨hx, hb, hml, hn0, hown, hts, hK, hStr, hLit, hr, hlocks, hl0, hd1, hd2, hd3, hd4⟩ := hF
  intro H locs ls hP hD hS hl
  exact lv_lsub hx hb hd (k H locs ls hP hD hS hl)
theorem j_lmul {E : En} {X : Cx} {Q : State → Prop} {S : Mem} {cc : ByteArray} {own : String} {nL d pc : Nat} {ret : Option FieldType} {lv : List (Nat × Value)} {st : List Value} (hF : Fx E X cc own nL ret d) {x y : Int64} (hd : decode cc pc = .ok (.lmul, 1)) (k : J E X Q S (pc + 1) lv (.long (x * y) :: st)) : J E X Q S pc lv (.long y :: .long x :: st) := by
  rcases X with ⟨p, l, e, R, s, m, args, below, meth, c, n0, A, cells, slots⟩
  obtain ⟨hx, hb, hml, hn0, hown, hts, hK, hStr, hLit, hr, hlocks, hl0, hd1, hd2, hd3, hd4⟩ := hF
  intro H locs ls hP hD hS hl
  exact lv_lmul hx hb hd (k H locs ls hP hD hS hl)
theorem j_land {E : En} {X : Cx} {Q : State → Prop} {S : Mem} {cc : ByteArray} {own : String} {nL d pc : Nat} {ret : Option FieldType} {lv : List (Nat × Value)} {st : List Value} (hF : Fx E X cc own nL ret d) {x y : Int64} (hd : decode cc pc = .ok (.land, 1)) (k : J E X Q S (pc + 1) lv (.long (x &&& y) :: st)) : J E X Q S pc lv (.long y :: .long x :: st) := by
  rcases X with ⟨p, l, e, R, s, m, args, below, meth, c, n0, A, cells, slots⟩
  obtain ⟨hx, hb, hml, hn0, hown, hts, hK, hStr, hLit, hr, hlocks, hl0, hd1, hd2, hd3, hd4⟩ := hF
  intro H locs ls hP hD hS hl
  exact lv_land hx hb hd (k H locs ls hP hD hS hl)
theorem j_lor {E : En} {X : Cx} {Q : State → Prop} {S : Mem} {cc : ByteArray} {own : String} {nL d pc : Nat} {ret : Option FieldType} {lv : List (Nat × Value)} {st : List Value} (hF : Fx E X cc own nL ret d) {x y : Int64} (hd : decode cc pc = .ok (.lor, 1)) (k : J E X Q S (pc + 1) lv (.long (x ||| y) :: st)) : J E X Q S pc lv (.long y :: .long x :: st) := by
  rcases X with ⟨p, l, e, R, s, m, args, below, meth, c, n0, A, cells, slots⟩
  obtain ⟨hx, hb, hml, hn0, hown, hts, hK, hStr, hLit, hr, hlocks, hl0, hd1, hd2, hd3, hd4⟩ := hF
  intro H locs ls hP hD hS hl
  exact lv_lor hx hb hd (k H locs ls hP hD hS hl)
theorem j_iushr {E : En} {X : Cx} {Q : State → Prop} {S : Mem} {cc : ByteArray} {own : String} {nL d pc : Nat} {ret : Option FieldType} {lv : List (Nat × Value)} {st : List Value} (hF : Fx E X cc own nL ret d) {x y : Int32} (hd : decode cc pc = .ok (.iushr, 1)) (k : J E X Q S (pc + 1) lv (.int (x.toUInt32 >>> (y.toUInt32 &&& Int32.toUInt32 31)).toInt32 :: st)) : J E X Q S pc lv (.int y :: .int x :: st) := by
  rcases X with ⟨p, l, e, R, s, m, args, below, meth, c, n0, A, cells, slots⟩
  obtain ⟨hx, hb, hml, hn0, hown, hts, hK, hStr, hLit, hr, hlocks, hl0, hd1, hd2, hd3, hd4⟩ := hF
  intro H locs ls hP hD hS hl
  exact lv_iushr hx hb hd rfl (k H locs ls hP hD hS hl)
theorem j_lushr {E : En} {X : Cx} {Q : State → Prop} {S : Mem} {cc : ByteArray} {own : String} {nL d pc : Nat} {ret : Option FieldType} {lv : List (Nat × Value)} {st : List Value} (hF : Fx E X cc own nL ret d) {x : Int64} {y : Int32} (hd : decode cc pc = .ok (.lushr, 1)) (k : J E X Q S (pc + 1) lv (.long (x.toUInt64 >>> (y.toInt64.toUInt64 &&& Int64.toUInt64 63)).toInt64 :: st)) : J E X Q S pc lv (.int y :: .long x :: st) := by
  rcases X with ⟨p, l, e, R, s, m, args, below, meth, c, n0, A, cells, slots⟩
  obtain ⟨hx, hb, hml, hn0, hown, hts, hK, hStr, hLit, hr, hlocks, hl0, hd1, hd2, hd3, hd4⟩ := hF
  intro H locs ls hP hD hS hl
  exact lv_lushr hx hb hd rfl (k H locs ls hP hD hS hl)
theorem j_lshr {E : En} {X : Cx} {Q : State → Prop} {S : Mem} {cc : ByteArray} {own : String} {nL d pc : Nat} {ret : Option FieldType} {lv : List (Nat × Value)} {st : List Value} (hF : Fx E X cc own nL ret d) {x : Int64} {y : Int32} (hd : decode cc pc = .ok (.lshr, 1)) (k : J E X Q S (pc + 1) lv (.long (x >>> (y.toInt64 &&& 63)) :: st)) : J E X Q S pc lv (.int y :: .long x :: st) := by
  rcases X with ⟨p, l, e, R, s, m, args, below, meth, c, n0, A, cells, slots⟩
  obtain ⟨hx, hb, hml, hn0, hown, hts, hK, hStr, hLit, hr, hlocks, hl0, hd1, hd2, hd3, hd4⟩ := hF
  intro H locs ls hP hD hS hl
  exact lv_lshr hx hb hd rfl (k H locs ls hP hD hS hl)
theorem j_lshl {E : En} {X : Cx} {Q : State → Prop} {S : Mem} {cc : ByteArray} {own : String} {nL d pc : Nat} {ret : Option FieldType} {lv : List (Nat × Value)} {st : List Value} (hF : Fx E X cc own nL ret d) {x : Int64} {y : Int32} (hd : decode cc pc = .ok (.lshl, 1)) (k : J E X Q S (pc + 1) lv (.long (x <<< (y.toInt64 &&& 63)) :: st)) : J E X Q S pc lv (.int y :: .long x :: st) := by
  rcases X with ⟨p, l, e, R, s, m, args, below, meth, c, n0, A, cells, slots⟩
  obtain ⟨hx, hb, hml, hn0, hown, hts, hK, hStr, hLit, hr, hlocks, hl0, hd1, hd2, hd3, hd4⟩ := hF
  intro H locs ls hP hD hS hl
  exact lv_lshl hx hb hd rfl (k H locs ls hP hD hS hl)
theorem j_i2l {E : En} {X : Cx} {Q : State → Prop} {S : Mem} {cc : ByteArray} {own : String} {nL d pc : Nat} {ret : Option FieldType} {lv : List (Nat × Value)} {st : List Value} (hF : Fx E X cc own nL ret d) {x : Int32} (hd : decode cc pc = .ok (.i2l, 1)) (k : J E X Q S (pc + 1) lv (.long x.toInt64 :: st)) : J E X Q S pc lv (.int x :: st) := by
  rcases X with ⟨p, l, e, R, s, m, args, below, meth, c, n0, A, cells, slots⟩
  obtain ⟨hx, hb, hml, hn0, hown, hts, hK, hStr, hLit, hr, hlocks, hl0, hd1, hd2, hd3, hd4⟩ := hF
  intro H locs ls hP hD hS hl
  exact lv_i2l hx hb hd rfl (k H locs ls hP hD hS hl)
theorem j_l2i {E : En} {X : Cx} {Q : State → Prop} {S : Mem} {cc : ByteArray} {own : String} {nL d pc : Nat} {ret : Option FieldType} {lv : List (Nat × Value)} {st : List Value} (hF : Fx E X cc own nL ret d) {x : Int64} (hd : decode cc pc = .ok (.l2i, 1)) (k : J E X Q S (pc + 1) lv (.int x.toInt32 :: st)) : J E X Q S pc lv (.long x :: st) := by
  rcases X with ⟨p, l, e, R, s, m, args, below, meth, c, n0, A, cells, slots⟩
  obtain ⟨hx, hb, hml, hn0, hown, hts, hK, hStr, hLit, hr, hlocks, hl0, hd1, hd2, hd3, hd4⟩ := hF
  intro H locs ls hP hD hS hl
  exact lv_l2i hx hb hd rfl (k H locs ls hP hD hS hl)
theorem j_i2b {E : En} {X : Cx} {Q : State → Prop} {S : Mem} {cc : ByteArray} {own : String} {nL d pc : Nat} {ret : Option FieldType} {lv : List (Nat × Value)} {st : List Value} (hF : Fx E X cc own nL ret d) {x : Int32} (hd : decode cc pc = .ok (.i2b, 1)) (k : J E X Q S (pc + 1) lv (.int x.toInt8.toInt32 :: st)) : J E X Q S pc lv (.int x :: st) := by
  rcases X with ⟨p, l, e, R, s, m, args, below, meth, c, n0, A, cells, slots⟩
  obtain ⟨hx, hb, hml, hn0, hown, hts, hK, hStr, hLit, hr, hlocks, hl0, hd1, hd2, hd3, hd4⟩ := hF
  intro H locs ls hP hD hS hl
  exact lv_i2b hx hb hd rfl (k H locs ls hP hD hS hl)
theorem j_i2c {E : En} {X : Cx} {Q : State → Prop} {S : Mem} {cc : ByteArray} {own : String} {nL d pc : Nat} {ret : Option FieldType} {lv : List (Nat × Value)} {st : List Value} (hF : Fx E X cc own nL ret d) {x : Int32} (hd : decode cc pc = .ok (.i2c, 1)) (k : J E X Q S (pc + 1) lv (.int (x.toUInt32 % 65536).toInt32 :: st)) : J E X Q S pc lv (.int x :: st) := by
  rcases X with ⟨p, l, e, R, s, m, args, below, meth, c, n0, A, cells, slots⟩
  obtain ⟨hx, hb, hml, hn0, hown, hts, hK, hStr, hLit, hr, hlocks, hl0, hd1, hd2, hd3, hd4⟩ := hF
  intro H locs ls hP hD hS hl
  exact lv_i2c hx hb hd rfl (k H locs ls hP hD hS hl)
theorem j_iconst {E : En} {X : Cx} {Q : State → Prop} {S : Mem} {cc : ByteArray} {own : String} {nL d pc : Nat} {ret : Option FieldType} {lv : List (Nat × Value)} {st : List Value} (hF : Fx E X cc own nL ret d) {n : Int} {v : Int32} (hv : Int32.ofInt n = v) (hd : decode cc pc = .ok (.iconst n, 1)) (k : J E X Q S (pc + 1) lv (.int v :: st)) : J E X Q S pc lv (st) := by
  rcases X with ⟨p, l, e, R, s, m, args, below, meth, c, n0, A, cells, slots⟩
  obtain ⟨hx, hb, hml, hn0, hown, hts, hK, hStr, hLit, hr, hlocks, hl0, hd1, hd2, hd3, hd4⟩ := hF
  intro H locs ls hP hD hS hl
  exact lv_iconst hx hb hd hv (k H locs ls hP hD hS hl)
theorem j_bipush {E : En} {X : Cx} {Q : State → Prop} {S : Mem} {cc : ByteArray} {own : String} {nL d pc : Nat} {ret : Option FieldType} {lv : List (Nat × Value)} {st : List Value} (hF : Fx E X cc own nL ret d) {n : Int} {v : Int32} (hv : (Int8.ofInt n).toInt32 = v) (hd : decode cc pc = .ok (.bipush n, 2)) (k : J E X Q S (pc + 2) lv (.int v :: st)) : J E X Q S pc lv (st) := by
  rcases X with ⟨p, l, e, R, s, m, args, below, meth, c, n0, A, cells, slots⟩
  obtain ⟨hx, hb, hml, hn0, hown, hts, hK, hStr, hLit, hr, hlocks, hl0, hd1, hd2, hd3, hd4⟩ := hF
  intro H locs ls hP hD hS hl
  exact lv_bipush hx hb hd hv (k H locs ls hP hD hS hl)
theorem j_sipush {E : En} {X : Cx} {Q : State → Prop} {S : Mem} {cc : ByteArray} {own : String} {nL d pc : Nat} {ret : Option FieldType} {lv : List (Nat × Value)} {st : List Value} (hF : Fx E X cc own nL ret d) {n : Int} {v : Int32} (hv : (Int16.ofInt n).toInt32 = v) (hd : decode cc pc = .ok (.sipush n, 3)) (k : J E X Q S (pc + 3) lv (.int v :: st)) : J E X Q S pc lv (st) := by
  rcases X with ⟨p, l, e, R, s, m, args, below, meth, c, n0, A, cells, slots⟩
  obtain ⟨hx, hb, hml, hn0, hown, hts, hK, hStr, hLit, hr, hlocks, hl0, hd1, hd2, hd3, hd4⟩ := hF
  intro H locs ls hP hD hS hl
  exact lv_sipush hx hb hd hv (k H locs ls hP hD hS hl)
theorem j_lconst {E : En} {X : Cx} {Q : State → Prop} {S : Mem} {cc : ByteArray} {own : String} {nL d pc : Nat} {ret : Option FieldType} {lv : List (Nat × Value)} {st : List Value} (hF : Fx E X cc own nL ret d) {n : Fin 2} {v : Int64} (hv : Int64.ofNat (n : Nat) = v) (hd : decode cc pc = .ok (.lconst n, 1)) (k : J E X Q S (pc + 1) lv (.long v :: st)) : J E X Q S pc lv (st) := by
  rcases X with ⟨p, l, e, R, s, m, args, below, meth, c, n0, A, cells, slots⟩
  obtain ⟨hx, hb, hml, hn0, hown, hts, hK, hStr, hLit, hr, hlocks, hl0, hd1, hd2, hd3, hd4⟩ := hF
  intro H locs ls hP hD hS hl
  exact lv_lconst hx hb hd hv (k H locs ls hP hD hS hl)
theorem j_ldc {E : En} {X : Cx} {Q : State → Prop} {S : Mem} {cc : ByteArray} {own : String} {nL d pc : Nat} {ret : Option FieldType} {lv : List (Nat × Value)} {st : List Value} (hF : Fx E X cc own nL ret d) {i : Nat} {v : Int32} (hw : Cond.constant own i v ∈ BIG) (hd : decode cc pc = .ok (.ldc i, 2)) (k : J E X Q S (pc + 2) lv (.int v :: st)) : J E X Q S pc lv (st) := by
  rcases X with ⟨p, l, e, R, s, m, args, below, meth, c, n0, A, cells, slots⟩
  obtain ⟨hx, hb, hml, hn0, hown, hts, hK, hStr, hLit, hr, hlocks, hl0, hd1, hd2, hd3, hd4⟩ := hF
  intro H locs ls hP hD hS hl
  exact lv_ldc hx hb hown (hts _ hw) hd (k H locs ls hP hD hS hl)
theorem j_ldcw {E : En} {X : Cx} {Q : State → Prop} {S : Mem} {cc : ByteArray} {own : String} {nL d pc : Nat} {ret : Option FieldType} {lv : List (Nat × Value)} {st : List Value} (hF : Fx E X cc own nL ret d) {i : Nat} {v : Int32} (hw : Cond.constant own i v ∈ BIG) (hd : decode cc pc = .ok (.ldc_w i, 3)) (k : J E X Q S (pc + 3) lv (.int v :: st)) : J E X Q S pc lv (st) := by
  rcases X with ⟨p, l, e, R, s, m, args, below, meth, c, n0, A, cells, slots⟩
  obtain ⟨hx, hb, hml, hn0, hown, hts, hK, hStr, hLit, hr, hlocks, hl0, hd1, hd2, hd3, hd4⟩ := hF
  intro H locs ls hP hD hS hl
  exact lv_ldcw hx hb hown (hts _ hw) hd (k H locs ls hP hD hS hl)
theorem j_ldc2 {E : En} {X : Cx} {Q : State → Prop} {S : Mem} {cc : ByteArray} {own : String} {nL d pc : Nat} {ret : Option FieldType} {lv : List (Nat × Value)} {st : List Value} (hF : Fx E X cc own nL ret d) {i : Nat} {v : Int64} (hw : Cond.constantLong own i v ∈ BIG) (hd : decode cc pc = .ok (.ldc2_w i, 3)) (k : J E X Q S (pc + 3) lv (.long v :: st)) : J E X Q S pc lv (st) := by
  rcases X with ⟨p, l, e, R, s, m, args, below, meth, c, n0, A, cells, slots⟩
  obtain ⟨hx, hb, hml, hn0, hown, hts, hK, hStr, hLit, hr, hlocks, hl0, hd1, hd2, hd3, hd4⟩ := hF
  intro H locs ls hP hD hS hl
  exact lv_ldc2 hx hb hown (hts _ hw) hd (k H locs ls hP hD hS hl)
theorem j_dup {E : En} {X : Cx} {Q : State → Prop} {S : Mem} {cc : ByteArray} {own : String} {nL d pc : Nat} {ret : Option FieldType} {lv : List (Nat × Value)} {st : List Value} (hF : Fx E X cc own nL ret d) {v : Value} (hc : v.category = 1) (hd : decode cc pc = .ok (.dup, 1)) (k : J E X Q S (pc + 1) lv (v :: v :: st)) : J E X Q S pc lv (v :: st) := by
  rcases X with ⟨p, l, e, R, s, m, args, below, meth, c, n0, A, cells, slots⟩
  obtain ⟨hx, hb, hml, hn0, hown, hts, hK, hStr, hLit, hr, hlocks, hl0, hd1, hd2, hd3, hd4⟩ := hF
  intro H locs ls hP hD hS hl
  exact lv_dup hx hb hd hc (k H locs ls hP hD hS hl)
theorem j_pop {E : En} {X : Cx} {Q : State → Prop} {S : Mem} {cc : ByteArray} {own : String} {nL d pc : Nat} {ret : Option FieldType} {lv : List (Nat × Value)} {st : List Value} (hF : Fx E X cc own nL ret d) {v : Value} (hc : v.category = 1) (hd : decode cc pc = .ok (.pop, 1)) (k : J E X Q S (pc + 1) lv (st)) : J E X Q S pc lv (v :: st) := by
  rcases X with ⟨p, l, e, R, s, m, args, below, meth, c, n0, A, cells, slots⟩
  obtain ⟨hx, hb, hml, hn0, hown, hts, hK, hStr, hLit, hr, hlocks, hl0, hd1, hd2, hd3, hd4⟩ := hF
  intro H locs ls hP hD hS hl
  exact lv_pop hx hb hd hc (k H locs ls hP hD hS hl)
theorem j_dup_x1 {E : En} {X : Cx} {Q : State → Prop} {S : Mem} {cc : ByteArray} {own : String} {nL d pc : Nat} {ret : Option FieldType} {lv : List (Nat × Value)} {st : List Value} (hF : Fx E X cc own nL ret d) {v w : Value} (hv : v.category = 1) (hw : w.category = 1) (hd : decode cc pc = .ok (.dup_x1, 1)) (k : J E X Q S (pc + 1) lv (v :: w :: v :: st)) : J E X Q S pc lv (v :: w :: st) := by
  rcases X with ⟨p, l, e, R, s, m, args, below, meth, c, n0, A, cells, slots⟩
  obtain ⟨hx, hb, hml, hn0, hown, hts, hK, hStr, hLit, hr, hlocks, hl0, hd1, hd2, hd3, hd4⟩ := hF
  intro H locs ls hP hD hS hl
  exact lv_dup_x1 hx hb hd hv hw (k H locs ls hP hD hS hl)
theorem j_dup2 {E : En} {X : Cx} {Q : State → Prop} {S : Mem} {cc : ByteArray} {own : String} {nL d pc : Nat} {ret : Option FieldType} {lv : List (Nat × Value)} {st : List Value} (hF : Fx E X cc own nL ret d) {v w : Value} (hv : v.category = 1) (hw : w.category = 1) (hd : decode cc pc = .ok (.dup2, 1)) (k : J E X Q S (pc + 1) lv (v :: w :: v :: w :: st)) : J E X Q S pc lv (v :: w :: st) := by
  rcases X with ⟨p, l, e, R, s, m, args, below, meth, c, n0, A, cells, slots⟩
  obtain ⟨hx, hb, hml, hn0, hown, hts, hK, hStr, hLit, hr, hlocks, hl0, hd1, hd2, hd3, hd4⟩ := hF
  intro H locs ls hP hD hS hl
  exact lv_dup2_11 hx hb hd hv hw (k H locs ls hP hD hS hl)
theorem j_iload_n {E : En} {X : Cx} {Q : State → Prop} {S : Mem} {cc : ByteArray} {own : String} {nL d pc : Nat} {ret : Option FieldType} {lv : List (Nat × Value)} {st : List Value} (hF : Fx E X cc own nL ret d) {n : Fin 4} {i : Nat} {x : Int32} (hi : (n : Nat) = i) (q : Nat) (hk : lv[q]? = some (i, .int x)) (hd : decode cc pc = .ok (.iload_n n, 1)) (k : J E X Q S (pc + 1) lv (.int x :: st)) : J E X Q S pc lv (st) := by
  rcases X with ⟨p, l, e, R, s, m, args, below, meth, c, n0, A, cells, slots⟩
  obtain ⟨hx, hb, hml, hn0, hown, hts, hK, hStr, hLit, hr, hlocks, hl0, hd1, hd2, hd3, hd4⟩ := hF
  intro H locs ls hP hD hS hl
  exact lv_iload_n hx hb hd hi (lv_at hl q hk) (k H locs ls hP hD hS hl)
theorem j_iload {E : En} {X : Cx} {Q : State → Prop} {S : Mem} {cc : ByteArray} {own : String} {nL d pc : Nat} {ret : Option FieldType} {lv : List (Nat × Value)} {st : List Value} (hF : Fx E X cc own nL ret d) {i : Nat} {x : Int32} (q : Nat) (hk : lv[q]? = some (i, .int x)) (hd : decode cc pc = .ok (.iload i, 2)) (k : J E X Q S (pc + 2) lv (.int x :: st)) : J E X Q S pc lv (st) := by
  rcases X with ⟨p, l, e, R, s, m, args, below, meth, c, n0, A, cells, slots⟩
  obtain ⟨hx, hb, hml, hn0, hown, hts, hK, hStr, hLit, hr, hlocks, hl0, hd1, hd2, hd3, hd4⟩ := hF
  intro H locs ls hP hD hS hl
  exact lv_iload hx hb hd (lv_at hl q hk) (k H locs ls hP hD hS hl)
theorem j_istore_n {E : En} {X : Cx} {Q : State → Prop} {S : Mem} {cc : ByteArray} {own : String} {nL d pc : Nat} {ret : Option FieldType} {lv : List (Nat × Value)} {st : List Value} (hF : Fx E X cc own nL ret d) {n : Fin 4} {i : Nat} {x : Int32} {lv' : List (Nat × Value)} (hi : (n : Nat) = i) (hn : i < nL) (hlv : (i, Value.int x) :: lv.filter (fun q => !(q.1 == i) && !(q.1 + 1 == i && q.2.category == 2)) = lv') (hd : decode cc pc = .ok (.istore_n n, 1)) (k : J E X Q S (pc + 1) lv' st) : J E X Q S pc lv (.int x :: st) := by
  rcases X with ⟨p, l, e, R, s, m, args, below, meth, c, n0, A, cells, slots⟩
  obtain ⟨hx, hb, hml, hn0, hown, hts, hK, hStr, hLit, hr, hlocks, hl0, hd1, hd2, hd3, hd4⟩ := hF
  intro H locs ls hP hD hS hl
  subst hn0
  exact lv_istore_n hx hb hd hi hl hn hlv (fun ls hl => k H locs ls hP hD hS hl)
theorem j_istore {E : En} {X : Cx} {Q : State → Prop} {S : Mem} {cc : ByteArray} {own : String} {nL d pc : Nat} {ret : Option FieldType} {lv : List (Nat × Value)} {st : List Value} (hF : Fx E X cc own nL ret d) {i : Nat} {x : Int32} {lv' : List (Nat × Value)} (hn : i < nL) (hlv : (i, Value.int x) :: lv.filter (fun q => !(q.1 == i) && !(q.1 + 1 == i && q.2.category == 2)) = lv') (hd : decode cc pc = .ok (.istore i, 2)) (k : J E X Q S (pc + 2) lv' st) : J E X Q S pc lv (.int x :: st) := by
  rcases X with ⟨p, l, e, R, s, m, args, below, meth, c, n0, A, cells, slots⟩
  obtain ⟨hx, hb, hml, hn0, hown, hts, hK, hStr, hLit, hr, hlocks, hl0, hd1, hd2, hd3, hd4⟩ := hF
  intro H locs ls hP hD hS hl
  subst hn0
  exact lv_istore hx hb hd hl hn hlv (fun ls hl => k H locs ls hP hD hS hl)
theorem j_lload_n {E : En} {X : Cx} {Q : State → Prop} {S : Mem} {cc : ByteArray} {own : String} {nL d pc : Nat} {ret : Option FieldType} {lv : List (Nat × Value)} {st : List Value} (hF : Fx E X cc own nL ret d) {n : Fin 4} {i : Nat} {x : Int64} (hi : (n : Nat) = i) (q : Nat) (hk : lv[q]? = some (i, .long x)) (hd : decode cc pc = .ok (.lload_n n, 1)) (k : J E X Q S (pc + 1) lv (.long x :: st)) : J E X Q S pc lv (st) := by
  rcases X with ⟨p, l, e, R, s, m, args, below, meth, c, n0, A, cells, slots⟩
  obtain ⟨hx, hb, hml, hn0, hown, hts, hK, hStr, hLit, hr, hlocks, hl0, hd1, hd2, hd3, hd4⟩ := hF
  intro H locs ls hP hD hS hl
  exact lv_lload_n hx hb hd hi (lv_at hl q hk) (k H locs ls hP hD hS hl)
theorem j_lload {E : En} {X : Cx} {Q : State → Prop} {S : Mem} {cc : ByteArray} {own : String} {nL d pc : Nat} {ret : Option FieldType} {lv : List (Nat × Value)} {st : List Value} (hF : Fx E X cc own nL ret d) {i : Nat} {x : Int64} (q : Nat) (hk : lv[q]? = some (i, .long x)) (hd : decode cc pc = .ok (.lload i, 2)) (k : J E X Q S (pc + 2) lv (.long x :: st)) : J E X Q S pc lv (st) := by
  rcases X with ⟨p, l, e, R, s, m, args, below, meth, c, n0, A, cells, slots⟩
  obtain ⟨hx, hb, hml, hn0, hown, hts, hK, hStr, hLit, hr, hlocks, hl0, hd1, hd2, hd3, hd4⟩ := hF
  intro H locs ls hP hD hS hl
  exact lv_lload hx hb hd (lv_at hl q hk) (k H locs ls hP hD hS hl)
theorem j_lstore_n {E : En} {X : Cx} {Q : State → Prop} {S : Mem} {cc : ByteArray} {own : String} {nL d pc : Nat} {ret : Option FieldType} {lv : List (Nat × Value)} {st : List Value} (hF : Fx E X cc own nL ret d) {n : Fin 4} {i : Nat} {x : Int64} {lv' : List (Nat × Value)} (hi : (n : Nat) = i) (hn : i + 1 < nL) (hlv : (i, Value.long x) :: lv.filter (fun q => !(q.1 == i) && (!(q.1 == i + 1) && !(q.1 + 1 == i && q.2.category == 2))) = lv') (hd : decode cc pc = .ok (.lstore_n n, 1)) (k : J E X Q S (pc + 1) lv' st) : J E X Q S pc lv (.long x :: st) := by
  rcases X with ⟨p, l, e, R, s, m, args, below, meth, c, n0, A, cells, slots⟩
  obtain ⟨hx, hb, hml, hn0, hown, hts, hK, hStr, hLit, hr, hlocks, hl0, hd1, hd2, hd3, hd4⟩ := hF
  intro H locs ls hP hD hS hl
  subst hn0
  exact lv_lstore_n hx hb hd hi hl hn hlv (fun ls hl => k H locs ls hP hD hS hl)
theorem j_lstore {E : En} {X : Cx} {Q : State → Prop} {S : Mem} {cc : ByteArray} {own : String} {nL d pc : Nat} {ret : Option FieldType} {lv : List (Nat × Value)} {st : List Value} (hF : Fx E X cc own nL ret d) {i : Nat} {x : Int64} {lv' : List (Nat × Value)} (hn : i + 1 < nL) (hlv : (i, Value.long x) :: lv.filter (fun q => !(q.1 == i) && (!(q.1 == i + 1) && !(q.1 + 1 == i && q.2.category == 2))) = lv') (hd : decode cc pc = .ok (.lstore i, 2)) (k : J E X Q S (pc + 2) lv' st) : J E X Q S pc lv (.long x :: st) := by
  rcases X with ⟨p, l, e, R, s, m, args, below, meth, c, n0, A, cells, slots⟩
  obtain ⟨hx, hb, hml, hn0, hown, hts, hK, hStr, hLit, hr, hlocks, hl0, hd1, hd2, hd3, hd4⟩ := hF
  intro H locs ls hP hD hS hl
  subst hn0
  exact lv_lstore hx hb hd hl hn hlv (fun ls hl => k H locs ls hP hD hS hl)
theorem j_aload_n {E : En} {X : Cx} {Q : State → Prop} {S : Mem} {cc : ByteArray} {own : String} {nL d pc : Nat} {ret : Option FieldType} {lv : List (Nat × Value)} {st : List Value} (hF : Fx E X cc own nL ret d) {n : Fin 4} {i : Nat} {x : Nat} (hi : (n : Nat) = i) (q : Nat) (hk : lv[q]? = some (i, .ref x)) (hd : decode cc pc = .ok (.aload_n n, 1)) (k : J E X Q S (pc + 1) lv (.ref x :: st)) : J E X Q S pc lv (st) := by
  rcases X with ⟨p, l, e, R, s, m, args, below, meth, c, n0, A, cells, slots⟩
  obtain ⟨hx, hb, hml, hn0, hown, hts, hK, hStr, hLit, hr, hlocks, hl0, hd1, hd2, hd3, hd4⟩ := hF
  intro H locs ls hP hD hS hl
  exact lv_aload_n hx hb hd hi (lv_at hl q hk) (k H locs ls hP hD hS hl)
theorem j_aload {E : En} {X : Cx} {Q : State → Prop} {S : Mem} {cc : ByteArray} {own : String} {nL d pc : Nat} {ret : Option FieldType} {lv : List (Nat × Value)} {st : List Value} (hF : Fx E X cc own nL ret d) {i : Nat} {x : Nat} (q : Nat) (hk : lv[q]? = some (i, .ref x)) (hd : decode cc pc = .ok (.aload i, 2)) (k : J E X Q S (pc + 2) lv (.ref x :: st)) : J E X Q S pc lv (st) := by
  rcases X with ⟨p, l, e, R, s, m, args, below, meth, c, n0, A, cells, slots⟩
  obtain ⟨hx, hb, hml, hn0, hown, hts, hK, hStr, hLit, hr, hlocks, hl0, hd1, hd2, hd3, hd4⟩ := hF
  intro H locs ls hP hD hS hl
  exact lv_aload hx hb hd (lv_at hl q hk) (k H locs ls hP hD hS hl)
theorem j_astore_n {E : En} {X : Cx} {Q : State → Prop} {S : Mem} {cc : ByteArray} {own : String} {nL d pc : Nat} {ret : Option FieldType} {lv : List (Nat × Value)} {st : List Value} (hF : Fx E X cc own nL ret d) {n : Fin 4} {i : Nat} {x : Nat} {lv' : List (Nat × Value)} (hi : (n : Nat) = i) (hn : i < nL) (hlv : (i, Value.ref x) :: lv.filter (fun q => !(q.1 == i) && !(q.1 + 1 == i && q.2.category == 2)) = lv') (hd : decode cc pc = .ok (.astore_n n, 1)) (k : J E X Q S (pc + 1) lv' st) : J E X Q S pc lv (.ref x :: st) := by
  rcases X with ⟨p, l, e, R, s, m, args, below, meth, c, n0, A, cells, slots⟩
  obtain ⟨hx, hb, hml, hn0, hown, hts, hK, hStr, hLit, hr, hlocks, hl0, hd1, hd2, hd3, hd4⟩ := hF
  intro H locs ls hP hD hS hl
  subst hn0
  exact lv_astore_n hx hb hd hi hl hn hlv (fun ls hl => k H locs ls hP hD hS hl)
theorem j_astore {E : En} {X : Cx} {Q : State → Prop} {S : Mem} {cc : ByteArray} {own : String} {nL d pc : Nat} {ret : Option FieldType} {lv : List (Nat × Value)} {st : List Value} (hF : Fx E X cc own nL ret d) {i : Nat} {x : Nat} {lv' : List (Nat × Value)} (hn : i < nL) (hlv : (i, Value.ref x) :: lv.filter (fun q => !(q.1 == i) && !(q.1 + 1 == i && q.2.category == 2)) = lv') (hd : decode cc pc = .ok (.astore i, 2)) (k : J E X Q S (pc + 2) lv' st) : J E X Q S pc lv (.ref x :: st) := by
  rcases X with ⟨p, l, e, R, s, m, args, below, meth, c, n0, A, cells, slots⟩
  obtain ⟨hx, hb, hml, hn0, hown, hts, hK, hStr, hLit, hr, hlocks, hl0, hd1, hd2, hd3, hd4⟩ := hF
  intro H locs ls hP hD hS hl
  subst hn0
  exact lv_astore hx hb hd hl hn hlv (fun ls hl => k H locs ls hP hD hS hl)
theorem j_iinc {E : En} {X : Cx} {Q : State → Prop} {S : Mem} {cc : ByteArray} {own : String} {nL d pc : Nat} {ret : Option FieldType} {lv : List (Nat × Value)} {st : List Value} (hF : Fx E X cc own nL ret d) {i q : Nat} {n : Int} {x v : Int32} {lv' : List (Nat × Value)} (hk : lv[q]? = some (i, .int x)) (hv : x + Int32.ofInt n = v) (hn : i < nL) (hlv : (i, Value.int v) :: lv.filter (fun q => !(q.1 == i) && !(q.1 + 1 == i && q.2.category == 2)) = lv') (hd : decode cc pc = .ok (.iinc i n, 3)) (k : J E X Q S (pc + 3) lv' st) : J E X Q S pc lv st := by
  rcases X with ⟨p, l, e, R, s, m, args, below, meth, c, n0, A, cells, slots⟩
  obtain ⟨hx, hb, hml, hn0, hown, hts, hK, hStr, hLit, hr, hlocks, hl0, hd1, hd2, hd3, hd4⟩ := hF
  intro H locs ls hP hD hS hl
  subst hn0
  exact lv_iinc hx hb hd hl hk hv hn hlv (fun ls hl => k H locs ls hP hD hS hl)
theorem j_sub {E : En} {X : Cx} {Q : State → Prop} {S : Mem} {cc : ByteArray} {own : String} {nL d pc : Nat} {ret : Option FieldType} {lv : List (Nat × Value)} {st : List Value} (hF : Fx E X cc own nL ret d) {lv' : List (Nat × Value)} (ks : List Nat) (hlv : lv_pick lv ks = lv') (k : J E X Q S pc lv' st) : J E X Q S pc lv st := by
  rcases X with ⟨p, l, e, R, s, m, args, below, meth, c, n0, A, cells, slots⟩
  obtain ⟨hx, hb, hml, hn0, hown, hts, hK, hStr, hLit, hr, hlocks, hl0, hd1, hd2, hd3, hd4⟩ := hF
  intro H locs ls hP hD hS hl
  exact k H locs ls hP hD hS (lv_sub hl ks hlv)
theorem j_if_eq {α : Type} {A1 B1 : Option α} {o : α} {E : En} {X : Cx} {Q : State → Prop} {S : Mem} {cc : ByteArray} {own : String} {nL d pc : Nat} {ret : Option FieldType} {lv : List (Nat × Value)} {st : List Value} (hF : Fx E X cc own nL ret d) {x : Int32} {off : Int} {tgt : Nat} (h : (if x = 0 then A1 else B1) = some o) (ht : (pc : Int) + off = (tgt : Int)) (hd : decode cc pc = .ok (.ifCond .eq off, 3)) (k1 : A1 = some o → J E X Q S tgt lv st) (k2 : B1 = some o → J E X Q S (pc + 3) lv st) : J E X Q S pc lv (.int x :: st) := by
  rcases X with ⟨p, l, e, R, s, m, args, below, meth, c, n0, A, cells, slots⟩
  obtain ⟨hx, hb, hml, hn0, hown, hts, hK, hStr, hLit, hr, hlocks, hl0, hd1, hd2, hd3, hd4⟩ := hF
  intro H locs ls hP hD hS hl
  refine lv_if_eq hx hb hd ht (fun c => ?_) (fun c => ?_)
  · exact k1 (by rw [if_pos c] at h; exact h) H locs ls hP hD hS hl
  · exact k2 (by rw [if_neg c] at h; exact h) H locs ls hP hD hS hl
theorem j_if_ne {α : Type} {A1 B1 : Option α} {o : α} {E : En} {X : Cx} {Q : State → Prop} {S : Mem} {cc : ByteArray} {own : String} {nL d pc : Nat} {ret : Option FieldType} {lv : List (Nat × Value)} {st : List Value} (hF : Fx E X cc own nL ret d) {x : Int32} {off : Int} {tgt : Nat} (h : (if x = 0 then B1 else A1) = some o) (ht : (pc : Int) + off = (tgt : Int)) (hd : decode cc pc = .ok (.ifCond .ne off, 3)) (k1 : A1 = some o → J E X Q S tgt lv st) (k2 : B1 = some o → J E X Q S (pc + 3) lv st) : J E X Q S pc lv (.int x :: st) := by
  rcases X with ⟨p, l, e, R, s, m, args, below, meth, c, n0, A, cells, slots⟩
  obtain ⟨hx, hb, hml, hn0, hown, hts, hK, hStr, hLit, hr, hlocks, hl0, hd1, hd2, hd3, hd4⟩ := hF
  intro H locs ls hP hD hS hl
  refine lv_if_ne hx hb hd ht (fun c => ?_) (fun c => ?_)
  · exact k1 (by rw [if_neg c] at h; exact h) H locs ls hP hD hS hl
  · exact k2 (by rw [if_pos c] at h; exact h) H locs ls hP hD hS hl
theorem j_if_lt {α : Type} {A1 B1 : Option α} {o : α} {E : En} {X : Cx} {Q : State → Prop} {S : Mem} {cc : ByteArray} {own : String} {nL d pc : Nat} {ret : Option FieldType} {lv : List (Nat × Value)} {st : List Value} (hF : Fx E X cc own nL ret d) {x : Int32} {off : Int} {tgt : Nat} (h : (if x < 0 then A1 else B1) = some o) (ht : (pc : Int) + off = (tgt : Int)) (hd : decode cc pc = .ok (.ifCond .lt off, 3)) (k1 : A1 = some o → J E X Q S tgt lv st) (k2 : B1 = some o → J E X Q S (pc + 3) lv st) : J E X Q S pc lv (.int x :: st) := by
  rcases X with ⟨p, l, e, R, s, m, args, below, meth, c, n0, A, cells, slots⟩
  obtain ⟨hx, hb, hml, hn0, hown, hts, hK, hStr, hLit, hr, hlocks, hl0, hd1, hd2, hd3, hd4⟩ := hF
  intro H locs ls hP hD hS hl
  refine lv_if_lt hx hb hd ht (fun c => ?_) (fun c => ?_)
  · exact k1 (by rw [if_pos c] at h; exact h) H locs ls hP hD hS hl
  · exact k2 (by rw [if_neg c] at h; exact h) H locs ls hP hD hS hl
theorem j_if_ge {α : Type} {A1 B1 : Option α} {o : α} {E : En} {X : Cx} {Q : State → Prop} {S : Mem} {cc : ByteArray} {own : String} {nL d pc : Nat} {ret : Option FieldType} {lv : List (Nat × Value)} {st : List Value} (hF : Fx E X cc own nL ret d) {x : Int32} {off : Int} {tgt : Nat} (h : (if 0 ≤ x then A1 else B1) = some o) (ht : (pc : Int) + off = (tgt : Int)) (hd : decode cc pc = .ok (.ifCond .ge off, 3)) (k1 : A1 = some o → J E X Q S tgt lv st) (k2 : B1 = some o → J E X Q S (pc + 3) lv st) : J E X Q S pc lv (.int x :: st) := by
  rcases X with ⟨p, l, e, R, s, m, args, below, meth, c, n0, A, cells, slots⟩
  obtain ⟨hx, hb, hml, hn0, hown, hts, hK, hStr, hLit, hr, hlocks, hl0, hd1, hd2, hd3, hd4⟩ := hF
  intro H locs ls hP hD hS hl
  refine lv_if_ge hx hb hd ht (fun c => ?_) (fun c => ?_)
  · exact k1 (by rw [if_pos c] at h; exact h) H locs ls hP hD hS hl
  · exact k2 (by rw [if_neg c] at h; exact h) H locs ls hP hD hS hl
theorem j_if_gt {α : Type} {A1 B1 : Option α} {o : α} {E : En} {X : Cx} {Q : State → Prop} {S : Mem} {cc : ByteArray} {own : String} {nL d pc : Nat} {ret : Option FieldType} {lv : List (Nat × Value)} {st : List Value} (hF : Fx E X cc own nL ret d) {x : Int32} {off : Int} {tgt : Nat} (h : (if 0 < x then A1 else B1) = some o) (ht : (pc : Int) + off = (tgt : Int)) (hd : decode cc pc = .ok (.ifCond .gt off, 3)) (k1 : A1 = some o → J E X Q S tgt lv st) (k2 : B1 = some o → J E X Q S (pc + 3) lv st) : J E X Q S pc lv (.int x :: st) := by
  rcases X with ⟨p, l, e, R, s, m, args, below, meth, c, n0, A, cells, slots⟩
  obtain ⟨hx, hb, hml, hn0, hown, hts, hK, hStr, hLit, hr, hlocks, hl0, hd1, hd2, hd3, hd4⟩ := hF
  intro H locs ls hP hD hS hl
  refine lv_if_gt hx hb hd ht (fun c => ?_) (fun c => ?_)
  · exact k1 (by rw [if_pos c] at h; exact h) H locs ls hP hD hS hl
  · exact k2 (by rw [if_neg c] at h; exact h) H locs ls hP hD hS hl
theorem j_if_le {α : Type} {A1 B1 : Option α} {o : α} {E : En} {X : Cx} {Q : State → Prop} {S : Mem} {cc : ByteArray} {own : String} {nL d pc : Nat} {ret : Option FieldType} {lv : List (Nat × Value)} {st : List Value} (hF : Fx E X cc own nL ret d) {x : Int32} {off : Int} {tgt : Nat} (h : (if x ≤ 0 then A1 else B1) = some o) (ht : (pc : Int) + off = (tgt : Int)) (hd : decode cc pc = .ok (.ifCond .le off, 3)) (k1 : A1 = some o → J E X Q S tgt lv st) (k2 : B1 = some o → J E X Q S (pc + 3) lv st) : J E X Q S pc lv (.int x :: st) := by
  rcases X with ⟨p, l, e, R, s, m, args, below, meth, c, n0, A, cells, slots⟩
  obtain ⟨hx, hb, hml, hn0, hown, hts, hK, hStr, hLit, hr, hlocks, hl0, hd1, hd2, hd3, hd4⟩ := hF
  intro H locs ls hP hD hS hl
  refine lv_if_le hx hb hd ht (fun c => ?_) (fun c => ?_)
  · exact k1 (by rw [if_pos c] at h; exact h) H locs ls hP hD hS hl
  · exact k2 (by rw [if_neg c] at h; exact h) H locs ls hP hD hS hl
theorem j_icmp_eq {α : Type} {A1 B1 : Option α} {o : α} {E : En} {X : Cx} {Q : State → Prop} {S : Mem} {cc : ByteArray} {own : String} {nL d pc : Nat} {ret : Option FieldType} {lv : List (Nat × Value)} {st : List Value} (hF : Fx E X cc own nL ret d) {x y : Int32} {off : Int} {tgt : Nat} (h : (if x = y then A1 else B1) = some o) (ht : (pc : Int) + off = (tgt : Int)) (hd : decode cc pc = .ok (.if_icmp .eq off, 3)) (k1 : A1 = some o → J E X Q S tgt lv st) (k2 : B1 = some o → J E X Q S (pc + 3) lv st) : J E X Q S pc lv (.int y :: .int x :: st) := by
  rcases X with ⟨p, l, e, R, s, m, args, below, meth, c, n0, A, cells, slots⟩
  obtain ⟨hx, hb, hml, hn0, hown, hts, hK, hStr, hLit, hr, hlocks, hl0, hd1, hd2, hd3, hd4⟩ := hF
  intro H locs ls hP hD hS hl
  refine lv_icmp_eq hx hb hd ht (fun c => ?_) (fun c => ?_)
  · exact k1 (by rw [if_pos c] at h; exact h) H locs ls hP hD hS hl
  · exact k2 (by rw [if_neg c] at h; exact h) H locs ls hP hD hS hl
theorem j_icmp_ne {α : Type} {A1 B1 : Option α} {o : α} {E : En} {X : Cx} {Q : State → Prop} {S : Mem} {cc : ByteArray} {own : String} {nL d pc : Nat} {ret : Option FieldType} {lv : List (Nat × Value)} {st : List Value} (hF : Fx E X cc own nL ret d) {x y : Int32} {off : Int} {tgt : Nat} (h : (if x = y then B1 else A1) = some o) (ht : (pc : Int) + off = (tgt : Int)) (hd : decode cc pc = .ok (.if_icmp .ne off, 3)) (k1 : A1 = some o → J E X Q S tgt lv st) (k2 : B1 = some o → J E X Q S (pc + 3) lv st) : J E X Q S pc lv (.int y :: .int x :: st) := by
  rcases X with ⟨p, l, e, R, s, m, args, below, meth, c, n0, A, cells, slots⟩
  obtain ⟨hx, hb, hml, hn0, hown, hts, hK, hStr, hLit, hr, hlocks, hl0, hd1, hd2, hd3, hd4⟩ := hF
  intro H locs ls hP hD hS hl
  refine lv_icmp_ne hx hb hd ht (fun c => ?_) (fun c => ?_)
  · exact k1 (by rw [if_neg c] at h; exact h) H locs ls hP hD hS hl
  · exact k2 (by rw [if_pos c] at h; exact h) H locs ls hP hD hS hl
theorem j_icmp_lt {α : Type} {A1 B1 : Option α} {o : α} {E : En} {X : Cx} {Q : State → Prop} {S : Mem} {cc : ByteArray} {own : String} {nL d pc : Nat} {ret : Option FieldType} {lv : List (Nat × Value)} {st : List Value} (hF : Fx E X cc own nL ret d) {x y : Int32} {off : Int} {tgt : Nat} (h : (if x < y then A1 else B1) = some o) (ht : (pc : Int) + off = (tgt : Int)) (hd : decode cc pc = .ok (.if_icmp .lt off, 3)) (k1 : A1 = some o → J E X Q S tgt lv st) (k2 : B1 = some o → J E X Q S (pc + 3) lv st) : J E X Q S pc lv (.int y :: .int x :: st) := by
  rcases X with ⟨p, l, e, R, s, m, args, below, meth, c, n0, A, cells, slots⟩
  obtain ⟨hx, hb, hml, hn0, hown, hts, hK, hStr, hLit, hr, hlocks, hl0, hd1, hd2, hd3, hd4⟩ := hF
  intro H locs ls hP hD hS hl
  refine lv_icmp_lt hx hb hd ht (fun c => ?_) (fun c => ?_)
  · exact k1 (by rw [if_pos c] at h; exact h) H locs ls hP hD hS hl
  · exact k2 (by rw [if_neg c] at h; exact h) H locs ls hP hD hS hl
theorem j_icmp_ge {α : Type} {A1 B1 : Option α} {o : α} {E : En} {X : Cx} {Q : State → Prop} {S : Mem} {cc : ByteArray} {own : String} {nL d pc : Nat} {ret : Option FieldType} {lv : List (Nat × Value)} {st : List Value} (hF : Fx E X cc own nL ret d) {x y : Int32} {off : Int} {tgt : Nat} (h : (if y ≤ x then A1 else B1) = some o) (ht : (pc : Int) + off = (tgt : Int)) (hd : decode cc pc = .ok (.if_icmp .ge off, 3)) (k1 : A1 = some o → J E X Q S tgt lv st) (k2 : B1 = some o → J E X Q S (pc + 3) lv st) : J E X Q S pc lv (.int y :: .int x :: st) := by
  rcases X with ⟨p, l, e, R, s, m, args, below, meth, c, n0, A, cells, slots⟩
  obtain ⟨hx, hb, hml, hn0, hown, hts, hK, hStr, hLit, hr, hlocks, hl0, hd1, hd2, hd3, hd4⟩ := hF
  intro H locs ls hP hD hS hl
  refine lv_icmp_ge hx hb hd ht (fun c => ?_) (fun c => ?_)
  · exact k1 (by rw [if_pos c] at h; exact h) H locs ls hP hD hS hl
  · exact k2 (by rw [if_neg c] at h; exact h) H locs ls hP hD hS hl
theorem j_icmp_gt {α : Type} {A1 B1 : Option α} {o : α} {E : En} {X : Cx} {Q : State → Prop} {S : Mem} {cc : ByteArray} {own : String} {nL d pc : Nat} {ret : Option FieldType} {lv : List (Nat × Value)} {st : List Value} (hF : Fx E X cc own nL ret d) {x y : Int32} {off : Int} {tgt : Nat} (h : (if y < x then A1 else B1) = some o) (ht : (pc : Int) + off = (tgt : Int)) (hd : decode cc pc = .ok (.if_icmp .gt off, 3)) (k1 : A1 = some o → J E X Q S tgt lv st) (k2 : B1 = some o → J E X Q S (pc + 3) lv st) : J E X Q S pc lv (.int y :: .int x :: st) := by
  rcases X with ⟨p, l, e, R, s, m, args, below, meth, c, n0, A, cells, slots⟩
  obtain ⟨hx, hb, hml, hn0, hown, hts, hK, hStr, hLit, hr, hlocks, hl0, hd1, hd2, hd3, hd4⟩ := hF
  intro H locs ls hP hD hS hl
  refine lv_icmp_gt hx hb hd ht (fun c => ?_) (fun c => ?_)
  · exact k1 (by rw [if_pos c] at h; exact h) H locs ls hP hD hS hl
  · exact k2 (by rw [if_neg c] at h; exact h) H locs ls hP hD hS hl
theorem j_icmp_le {α : Type} {A1 B1 : Option α} {o : α} {E : En} {X : Cx} {Q : State → Prop} {S : Mem} {cc : ByteArray} {own : String} {nL d pc : Nat} {ret : Option FieldType} {lv : List (Nat × Value)} {st : List Value} (hF : Fx E X cc own nL ret d) {x y : Int32} {off : Int} {tgt : Nat} (h : (if x ≤ y then A1 else B1) = some o) (ht : (pc : Int) + off = (tgt : Int)) (hd : decode cc pc = .ok (.if_icmp .le off, 3)) (k1 : A1 = some o → J E X Q S tgt lv st) (k2 : B1 = some o → J E X Q S (pc + 3) lv st) : J E X Q S pc lv (.int y :: .int x :: st) := by
  rcases X with ⟨p, l, e, R, s, m, args, below, meth, c, n0, A, cells, slots⟩
  obtain ⟨hx, hb, hml, hn0, hown, hts, hK, hStr, hLit, hr, hlocks, hl0, hd1, hd2, hd3, hd4⟩ := hF
  intro H locs ls hP hD hS hl
  refine lv_icmp_le hx hb hd ht (fun c => ?_) (fun c => ?_)
  · exact k1 (by rw [if_pos c] at h; exact h) H locs ls hP hD hS hl
  · exact k2 (by rw [if_neg c] at h; exact h) H locs ls hP hD hS hl
theorem j_goto {E : En} {X : Cx} {Q : State → Prop} {S : Mem} {cc : ByteArray} {own : String} {nL d pc : Nat} {ret : Option FieldType} {lv : List (Nat × Value)} {st : List Value} (hF : Fx E X cc own nL ret d) {off : Int} {tgt : Nat} (ht : (pc : Int) + off = (tgt : Int)) (hd : decode cc pc = .ok (.goto off, 3)) (k : J E X Q S tgt lv st) : J E X Q S pc lv st := by
  rcases X with ⟨p, l, e, R, s, m, args, below, meth, c, n0, A, cells, slots⟩
  obtain ⟨hx, hb, hml, hn0, hown, hts, hK, hStr, hLit, hr, hlocks, hl0, hd1, hd2, hd3, hd4⟩ := hF
  intro H locs ls hP hD hS hl
  exact lv_goto hx hb hd ht (k H locs ls hP hD hS hl)
theorem j_idiv {α : Type} {A1 : Option α} {o : α} {E : En} {X : Cx} {Q : State → Prop} {S : Mem} {cc : ByteArray} {own : String} {nL d pc : Nat} {ret : Option FieldType} {lv : List (Nat × Value)} {st : List Value} (hF : Fx E X cc own nL ret d) {x y : Int32} (h : (if y = 0 then none else A1) = some o) (hd : decode cc pc = .ok (.idiv, 1)) (k : A1 = some o → J E X Q S (pc + 1) lv (.int (x / y) :: st)) : J E X Q S pc lv (.int y :: .int x :: st) := by
  rcases X with ⟨p, l, e, R, s, m, args, below, meth, c, n0, A, cells, slots⟩
  obtain ⟨hx, hb, hml, hn0, hown, hts, hK, hStr, hLit, hr, hlocks, hl0, hd1, hd2, hd3, hd4⟩ := hF
  intro H locs ls hP hD hS hl
  by_cases c : y = 0
  · rw [if_pos c] at h; cases h
  · exact lv_idiv hx hb hd c (k (by rw [if_neg c] at h; exact h) H locs ls hP hD hS hl)
theorem j_irem {α : Type} {A1 : Option α} {o : α} {E : En} {X : Cx} {Q : State → Prop} {S : Mem} {cc : ByteArray} {own : String} {nL d pc : Nat} {ret : Option FieldType} {lv : List (Nat × Value)} {st : List Value} (hF : Fx E X cc own nL ret d) {x y : Int32} (h : (if y = 0 then none else A1) = some o) (hd : decode cc pc = .ok (.irem, 1)) (k : A1 = some o → J E X Q S (pc + 1) lv (.int (x - x / y * y) :: st)) : J E X Q S pc lv (.int y :: .int x :: st) := by
  rcases X with ⟨p, l, e, R, s, m, args, below, meth, c, n0, A, cells, slots⟩
  obtain ⟨hx, hb, hml, hn0, hown, hts, hK, hStr, hLit, hr, hlocks, hl0, hd1, hd2, hd3, hd4⟩ := hF
  intro H locs ls hP hD hS hl
  by_cases c : y = 0
  · rw [if_pos c] at h; cases h
  · exact lv_irem hx hb hd c (k (by rw [if_neg c] at h; exact h) H locs ls hP hD hS hl)
theorem j_ldiv {α : Type} {A1 : Option α} {o : α} {E : En} {X : Cx} {Q : State → Prop} {S : Mem} {cc : ByteArray} {own : String} {nL d pc : Nat} {ret : Option FieldType} {lv : List (Nat × Value)} {st : List Value} (hF : Fx E X cc own nL ret d) {x y : Int64} (h : (if y = 0 then none else A1) = some o) (hd : decode cc pc = .ok (.ldiv, 1)) (k : A1 = some o → J E X Q S (pc + 1) lv (.long (x / y) :: st)) : J E X Q S pc lv (.long y :: .long x :: st) := by
  rcases X with ⟨p, l, e, R, s, m, args, below, meth, c, n0, A, cells, slots⟩
  obtain ⟨hx, hb, hml, hn0, hown, hts, hK, hStr, hLit, hr, hlocks, hl0, hd1, hd2, hd3, hd4⟩ := hF
  intro H locs ls hP hD hS hl
  by_cases c : y = 0
  · rw [if_pos c] at h; cases h
  · exact lv_ldiv hx hb hd c (k (by rw [if_neg c] at h; exact h) H locs ls hP hD hS hl)
theorem j_lrem {α : Type} {A1 : Option α} {o : α} {E : En} {X : Cx} {Q : State → Prop} {S : Mem} {cc : ByteArray} {own : String} {nL d pc : Nat} {ret : Option FieldType} {lv : List (Nat × Value)} {st : List Value} (hF : Fx E X cc own nL ret d) {x y : Int64} (h : (if y = 0 then none else A1) = some o) (hd : decode cc pc = .ok (.lrem, 1)) (k : A1 = some o → J E X Q S (pc + 1) lv (.long (x - x / y * y) :: st)) : J E X Q S pc lv (.long y :: .long x :: st) := by
  rcases X with ⟨p, l, e, R, s, m, args, below, meth, c, n0, A, cells, slots⟩
  obtain ⟨hx, hb, hml, hn0, hown, hts, hK, hStr, hLit, hr, hlocks, hl0, hd1, hd2, hd3, hd4⟩ := hF
  intro H locs ls hP hD hS hl
  by_cases c : y = 0
  · rw [if_pos c] at h; cases h
  · exact lv_lrem hx hb hd c (k (by rw [if_neg c] at h; exact h) H locs ls hP hD hS hl)
theorem j_lcmp {E : En} {X : Cx} {Q : State → Prop} {S : Mem} {cc : ByteArray} {own : String} {nL d pc : Nat} {ret : Option FieldType} {lv : List (Nat × Value)} {st : List Value} (hF : Fx E X cc own nL ret d) {x y : Int64} (hd : decode cc pc = .ok (.lcmp, 1)) (k : J E X Q S (pc + 1) lv (.int (lg_cmp x y) :: st)) : J E X Q S pc lv (.long y :: .long x :: st) := by
  rcases X with ⟨p, l, e, R, s, m, args, below, meth, c, n0, A, cells, slots⟩
  obtain ⟨hx, hb, hml, hn0, hown, hts, hK, hStr, hLit, hr, hlocks, hl0, hd1, hd2, hd3, hd4⟩ := hF
  intro H locs ls hP hD hS hl
  exact W.lcmp hx hb hd (k H locs ls hP hD hS hl)
