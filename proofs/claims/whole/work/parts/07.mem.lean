theorem gf0_0 {E : En} {X : Cx} {Q : State → Prop} {S : Mem} {cc : ByteArray} {own : String} {nL d pc : Nat} {ret : Option FieldType} {lv : List (Nat × Value)} {st : List Value} (hF : Fx E X cc own nL ret d) {k idx : Nat} {fs : List Value} {v : Value} (hk : k < 70) (hs : sh E k (S k) = .inr (0, fs)) (hv : fs[0]? = some v) (hw : Cond.fieldLink own idx "SelfScale$Book" "sets" "LSelfScale$Row;" ∈ BIG) (hd : decode cc pc = .ok (.getfield idx, 3)) (kk : J E X Q S (pc + 3) lv (v :: st)) : J E X Q S pc lv (.ref (eA E k) :: st) := by
  rcases X with ⟨p, l, e, R, s, m, args, below, meth, c, n0, A, cells, slots⟩
  obtain ⟨hx, hb, hml, hn0, hown, hts, hK, hStr, hLit, hr, hlocks, hl0, hd1, hd2, hd3, hd4⟩ := hF
  intro H locs ls hP hD hS hl
  exact va_get (C := RX0) (T := TX0) (N := 4) hx hb hts inX0 hown hK hP k ((world_get E S hk).trans (by rw [hs])) rfl 0 (by decide) (hts _ hw) (fun _ h => h) hv hd (kk H locs ls hP hD hS hl)
theorem gf0_1 {E : En} {X : Cx} {Q : State → Prop} {S : Mem} {cc : ByteArray} {own : String} {nL d pc : Nat} {ret : Option FieldType} {lv : List (Nat × Value)} {st : List Value} (hF : Fx E X cc own nL ret d) {k idx : Nat} {fs : List Value} {v : Value} (hk : k < 70) (hs : sh E k (S k) = .inr (0, fs)) (hv : fs[1]? = some v) (hw : Cond.fieldLink own idx "SelfScale$Book" "shown" "LSelfScale$Row;" ∈ BIG) (hd : decode cc pc = .ok (.getfield idx, 3)) (kk : J E X Q S (pc + 3) lv (v :: st)) : J E X Q S pc lv (.ref (eA E k) :: st) := by
  rcases X with ⟨p, l, e, R, s, m, args, below, meth, c, n0, A, cells, slots⟩
  obtain ⟨hx, hb, hml, hn0, hown, hts, hK, hStr, hLit, hr, hlocks, hl0, hd1, hd2, hd3, hd4⟩ := hF
  intro H locs ls hP hD hS hl
  exact va_get (C := RX0) (T := TX0) (N := 4) hx hb hts inX0 hown hK hP k ((world_get E S hk).trans (by rw [hs])) rfl 1 (by decide) (hts _ hw) (fun _ h => h) hv hd (kk H locs ls hP hD hS hl)
theorem gf0_2 {E : En} {X : Cx} {Q : State → Prop} {S : Mem} {cc : ByteArray} {own : String} {nL d pc : Nat} {ret : Option FieldType} {lv : List (Nat × Value)} {st : List Value} (hF : Fx E X cc own nL ret d) {k idx : Nat} {fs : List Value} {v : Value} (hk : k < 70) (hs : sh E k (S k) = .inr (0, fs)) (hv : fs[2]? = some v) (hw : Cond.fieldLink own idx "SelfScale$Book" "laughs" "LSelfScale$Row;" ∈ BIG) (hd : decode cc pc = .ok (.getfield idx, 3)) (kk : J E X Q S (pc + 3) lv (v :: st)) : J E X Q S pc lv (.ref (eA E k) :: st) := by
  rcases X with ⟨p, l, e, R, s, m, args, below, meth, c, n0, A, cells, slots⟩
  obtain ⟨hx, hb, hml, hn0, hown, hts, hK, hStr, hLit, hr, hlocks, hl0, hd1, hd2, hd3, hd4⟩ := hF
  intro H locs ls hP hD hS hl
  exact va_get (C := RX0) (T := TX0) (N := 4) hx hb hts inX0 hown hK hP k ((world_get E S hk).trans (by rw [hs])) rfl 2 (by decide) (hts _ hw) (fun _ h => h) hv hd (kk H locs ls hP hD hS hl)
theorem gf0_3 {E : En} {X : Cx} {Q : State → Prop} {S : Mem} {cc : ByteArray} {own : String} {nL d pc : Nat} {ret : Option FieldType} {lv : List (Nat × Value)} {st : List Value} (hF : Fx E X cc own nL ret d) {k idx : Nat} {fs : List Value} {v : Value} (hk : k < 70) (hs : sh E k (S k) = .inr (0, fs)) (hv : fs[3]? = some v) (hw : Cond.fieldLink own idx "SelfScale$Book" "lines" "I" ∈ BIG) (hd : decode cc pc = .ok (.getfield idx, 3)) (kk : J E X Q S (pc + 3) lv (v :: st)) : J E X Q S pc lv (.ref (eA E k) :: st) := by
  rcases X with ⟨p, l, e, R, s, m, args, below, meth, c, n0, A, cells, slots⟩
  obtain ⟨hx, hb, hml, hn0, hown, hts, hK, hStr, hLit, hr, hlocks, hl0, hd1, hd2, hd3, hd4⟩ := hF
  intro H locs ls hP hD hS hl
  exact va_get (C := RX0) (T := TX0) (N := 4) hx hb hts inX0 hown hK hP k ((world_get E S hk).trans (by rw [hs])) rfl 3 (by decide) (hts _ hw) (fun _ h => h) hv hd (kk H locs ls hP hD hS hl)
theorem pf0_3 {E : En} {X : Cx} {Q : State → Prop} {S : Mem} {cc : ByteArray} {own : String} {nL d pc : Nat} {ret : Option FieldType} {lv : List (Nat × Value)} {st : List Value} (hF : Fx E X cc own nL ret d) {k idx : Nat} {fs : List Value} {x : Int32} (hk : k < 70) (hs : sh E k (S k) = .inr (0, fs)) (hs2 : sh E k (upd (S k).1 3 x, (S k).2) = .inr (0, fs.set 3 (.int x))) (hlen : 3 < fs.length) (hw : Cond.fieldLink own idx "SelfScale$Book" "lines" "I" ∈ BIG) (hd : decode cc pc = .ok (.putfield idx, 3)) (kk : J E X Q (wr S k 3 x) (pc + 3) lv st) : J E X Q S pc lv (.int x :: .ref (eA E k) :: st) := by
  rcases X with ⟨p, l, e, R, s, m, args, below, meth, c, n0, A, cells, slots⟩
  obtain ⟨hx, hb, hml, hn0, hown, hts, hK, hStr, hLit, hr, hlocks, hl0, hd1, hd2, hd3, hd4⟩ := hF
  intro H locs ls hP hD hS hl
  have e9 : (world E S).set k (eA E k, .inr (0, fs.set 3 (.int x))) = world E (wr S k 3 x) := by
    rw [← hs2, ← wr_at S k 3 x]
    exact world_set E hk (fun a h => wr_ne S k 3 x h)
  refine va_put (C := RX0) (T := TX0) (N := 4) (ty := .int) hx hb hts inX0 tyX0 tyX0_ok nmX0 hown hK hP hD hS k ((world_get E S hk).trans (by rw [hs])) rfl 3 (by decide) (hts _ hw) (fun _ h => h) rfl (by decide +kernel) rfl rfl hlen hd (fun H1 locs1 hP hD hS => ?_)
  rw [e9] at hP hD
  exact kk H1 locs1 ls hP hD hS hl
theorem gf1_0 {E : En} {X : Cx} {Q : State → Prop} {S : Mem} {cc : ByteArray} {own : String} {nL d pc : Nat} {ret : Option FieldType} {lv : List (Nat × Value)} {st : List Value} (hF : Fx E X cc own nL ret d) {k idx : Nat} {fs : List Value} {v : Value} (hk : k < 70) (hs : sh E k (S k) = .inr (1, fs)) (hv : fs[0]? = some v) (hw : Cond.fieldLink own idx "SelfScale$Image" "kept" "LSelfScale$Book;" ∈ BIG) (hd : decode cc pc = .ok (.getfield idx, 3)) (kk : J E X Q S (pc + 3) lv (v :: st)) : J E X Q S pc lv (.ref (eA E k) :: st) := by
  rcases X with ⟨p, l, e, R, s, m, args, below, meth, c, n0, A, cells, slots⟩
  obtain ⟨hx, hb, hml, hn0, hown, hts, hK, hStr, hLit, hr, hlocks, hl0, hd1, hd2, hd3, hd4⟩ := hF
  intro H locs ls hP hD hS hl
  exact va_get (C := RX1) (T := TX1) (N := 2) hx hb hts inX1 hown hK hP k ((world_get E S hk).trans (by rw [hs])) rfl 0 (by decide) (hts _ hw) (fun _ h => h) hv hd (kk H locs ls hP hD hS hl)
theorem gf1_1 {E : En} {X : Cx} {Q : State → Prop} {S : Mem} {cc : ByteArray} {own : String} {nL d pc : Nat} {ret : Option FieldType} {lv : List (Nat × Value)} {st : List Value} (hF : Fx E X cc own nL ret d) {k idx : Nat} {fs : List Value} {v : Value} (hk : k < 70) (hs : sh E k (S k) = .inr (1, fs)) (hv : fs[1]? = some v) (hw : Cond.fieldLink own idx "SelfScale$Image" "isKept" "Z" ∈ BIG) (hd : decode cc pc = .ok (.getfield idx, 3)) (kk : J E X Q S (pc + 3) lv (v :: st)) : J E X Q S pc lv (.ref (eA E k) :: st) := by
  rcases X with ⟨p, l, e, R, s, m, args, below, meth, c, n0, A, cells, slots⟩
  obtain ⟨hx, hb, hml, hn0, hown, hts, hK, hStr, hLit, hr, hlocks, hl0, hd1, hd2, hd3, hd4⟩ := hF
  intro H locs ls hP hD hS hl
  exact va_get (C := RX1) (T := TX1) (N := 2) hx hb hts inX1 hown hK hP k ((world_get E S hk).trans (by rw [hs])) rfl 1 (by decide) (hts _ hw) (fun _ h => h) hv hd (kk H locs ls hP hD hS hl)
theorem pf1_1 {E : En} {X : Cx} {Q : State → Prop} {S : Mem} {cc : ByteArray} {own : String} {nL d pc : Nat} {ret : Option FieldType} {lv : List (Nat × Value)} {st : List Value} (hF : Fx E X cc own nL ret d) {k idx : Nat} {fs : List Value} {x : Int32} (hn : narrow .boolean (.int x) = .int x) (hf : fits .boolean (.int x) = true) (hk : k < 70) (hs : sh E k (S k) = .inr (1, fs)) (hs2 : sh E k (upd (S k).1 1 x, (S k).2) = .inr (1, fs.set 1 (.int x))) (hlen : 1 < fs.length) (hw : Cond.fieldLink own idx "SelfScale$Image" "isKept" "Z" ∈ BIG) (hd : decode cc pc = .ok (.putfield idx, 3)) (kk : J E X Q (wr S k 1 x) (pc + 3) lv st) : J E X Q S pc lv (.int x :: .ref (eA E k) :: st) := by
  rcases X with ⟨p, l, e, R, s, m, args, below, meth, c, n0, A, cells, slots⟩
  obtain ⟨hx, hb, hml, hn0, hown, hts, hK, hStr, hLit, hr, hlocks, hl0, hd1, hd2, hd3, hd4⟩ := hF
  intro H locs ls hP hD hS hl
  have e9 : (world E S).set k (eA E k, .inr (1, fs.set 1 (.int x))) = world E (wr S k 1 x) := by
    rw [← hs2, ← wr_at S k 1 x]
    exact world_set E hk (fun a h => wr_ne S k 1 x h)
  refine va_put (C := RX1) (T := TX1) (N := 2) (ty := .boolean) hx hb hts inX1 tyX1 tyX1_ok nmX1 hown hK hP hD hS k ((world_get E S hk).trans (by rw [hs])) rfl 1 (by decide) (hts _ hw) (fun _ h => h) rfl (by decide +kernel) hn hf hlen hd (fun H1 locs1 hP hD hS => ?_)
  rw [e9] at hP hD
  exact kk H1 locs1 ls hP hD hS hl
theorem gf2_0 {E : En} {X : Cx} {Q : State → Prop} {S : Mem} {cc : ByteArray} {own : String} {nL d pc : Nat} {ret : Option FieldType} {lv : List (Nat × Value)} {st : List Value} (hF : Fx E X cc own nL ret d) {k idx : Nat} {fs : List Value} {v : Value} (hk : k < 70) (hs : sh E k (S k) = .inr (2, fs)) (hv : fs[0]? = some v) (hw : Cond.fieldLink own idx "SelfScale$Kinds" "scale" "LSelfScale$Scale;" ∈ BIG) (hd : decode cc pc = .ok (.getfield idx, 3)) (kk : J E X Q S (pc + 3) lv (v :: st)) : J E X Q S pc lv (.ref (eA E k) :: st) := by
  rcases X with ⟨p, l, e, R, s, m, args, below, meth, c, n0, A, cells, slots⟩
  obtain ⟨hx, hb, hml, hn0, hown, hts, hK, hStr, hLit, hr, hlocks, hl0, hd1, hd2, hd3, hd4⟩ := hF
  intro H locs ls hP hD hS hl
  exact va_get (C := RX2) (T := TX2) (N := 3) hx hb hts inX2 hown hK hP k ((world_get E S hk).trans (by rw [hs])) rfl 0 (by decide) (hts _ hw) (fun _ h => h) hv hd (kk H locs ls hP hD hS hl)
theorem gf2_1 {E : En} {X : Cx} {Q : State → Prop} {S : Mem} {cc : ByteArray} {own : String} {nL d pc : Nat} {ret : Option FieldType} {lv : List (Nat × Value)} {st : List Value} (hF : Fx E X cc own nL ret d) {k idx : Nat} {fs : List Value} {v : Value} (hk : k < 70) (hs : sh E k (S k) = .inr (2, fs)) (hv : fs[1]? = some v) (hw : Cond.fieldLink own idx "SelfScale$Kinds" "book" "LSelfScale$Book;" ∈ BIG) (hd : decode cc pc = .ok (.getfield idx, 3)) (kk : J E X Q S (pc + 3) lv (v :: st)) : J E X Q S pc lv (.ref (eA E k) :: st) := by
  rcases X with ⟨p, l, e, R, s, m, args, below, meth, c, n0, A, cells, slots⟩
  obtain ⟨hx, hb, hml, hn0, hown, hts, hK, hStr, hLit, hr, hlocks, hl0, hd1, hd2, hd3, hd4⟩ := hF
  intro H locs ls hP hD hS hl
  exact va_get (C := RX2) (T := TX2) (N := 3) hx hb hts inX2 hown hK hP k ((world_get E S hk).trans (by rw [hs])) rfl 1 (by decide) (hts _ hw) (fun _ h => h) hv hd (kk H locs ls hP hD hS hl)
theorem gf2_2 {E : En} {X : Cx} {Q : State → Prop} {S : Mem} {cc : ByteArray} {own : String} {nL d pc : Nat} {ret : Option FieldType} {lv : List (Nat × Value)} {st : List Value} (hF : Fx E X cc own nL ret d) {k idx : Nat} {fs : List Value} {v : Value} (hk : k < 70) (hs : sh E k (S k) = .inr (2, fs)) (hv : fs[2]? = some v) (hw : Cond.fieldLink own idx "SelfScale$Kinds" "asked" "J" ∈ BIG) (hd : decode cc pc = .ok (.getfield idx, 3)) (kk : J E X Q S (pc + 3) lv (v :: st)) : J E X Q S pc lv (.ref (eA E k) :: st) := by
  rcases X with ⟨p, l, e, R, s, m, args, below, meth, c, n0, A, cells, slots⟩
  obtain ⟨hx, hb, hml, hn0, hown, hts, hK, hStr, hLit, hr, hlocks, hl0, hd1, hd2, hd3, hd4⟩ := hF
  intro H locs ls hP hD hS hl
  exact va_get (C := RX2) (T := TX2) (N := 3) hx hb hts inX2 hown hK hP k ((world_get E S hk).trans (by rw [hs])) rfl 2 (by decide) (hts _ hw) (fun _ h => h) hv hd (kk H locs ls hP hD hS hl)
theorem pf2_2 {E : En} {X : Cx} {Q : State → Prop} {S : Mem} {cc : ByteArray} {own : String} {nL d pc : Nat} {ret : Option FieldType} {lv : List (Nat × Value)} {st : List Value} (hF : Fx E X cc own nL ret d) {k idx : Nat} {fs : List Value} {x : Int64} (hk : k < 70) (hs : sh E k (S k) = .inr (2, fs)) (hs2 : sh E k ((S k).1, x) = .inr (2, fs.set 2 (.long x))) (hlen : 2 < fs.length) (hw : Cond.fieldLink own idx "SelfScale$Kinds" "asked" "J" ∈ BIG) (hd : decode cc pc = .ok (.putfield idx, 3)) (kk : J E X Q (wrL S k x) (pc + 3) lv st) : J E X Q S pc lv (.long x :: .ref (eA E k) :: st) := by
  rcases X with ⟨p, l, e, R, s, m, args, below, meth, c, n0, A, cells, slots⟩
  obtain ⟨hx, hb, hml, hn0, hown, hts, hK, hStr, hLit, hr, hlocks, hl0, hd1, hd2, hd3, hd4⟩ := hF
  intro H locs ls hP hD hS hl
  have e9 : (world E S).set k (eA E k, .inr (2, fs.set 2 (.long x))) = world E (wrL S k x) := by
    rw [← hs2, ← wrL_at S k x]
    exact world_set E hk (fun a h => wrL_ne S k x h)
  refine va_put (C := RX2) (T := TX2) (N := 3) (ty := .long) hx hb hts inX2 tyX2 tyX2_ok nmX2 hown hK hP hD hS k ((world_get E S hk).trans (by rw [hs])) rfl 2 (by decide) (hts _ hw) (fun _ h => h) rfl (by decide +kernel) rfl rfl hlen hd (fun H1 locs1 hP hD hS => ?_)
  rw [e9] at hP hD
  exact kk H1 locs1 ls hP hD hS hl
theorem gf3_0 {E : En} {X : Cx} {Q : State → Prop} {S : Mem} {cc : ByteArray} {own : String} {nL d pc : Nat} {ret : Option FieldType} {lv : List (Nat × Value)} {st : List Value} (hF : Fx E X cc own nL ret d) {k idx : Nat} {fs : List Value} {v : Value} (hk : k < 70) (hs : sh E k (S k) = .inr (3, fs)) (hv : fs[0]? = some v) (hw : Cond.fieldLink own idx "SelfScale$Plan" "scale" "LSelfScale$Scale;" ∈ BIG) (hd : decode cc pc = .ok (.getfield idx, 3)) (kk : J E X Q S (pc + 3) lv (v :: st)) : J E X Q S pc lv (.ref (eA E k) :: st) := by
  rcases X with ⟨p, l, e, R, s, m, args, below, meth, c, n0, A, cells, slots⟩
  obtain ⟨hx, hb, hml, hn0, hown, hts, hK, hStr, hLit, hr, hlocks, hl0, hd1, hd2, hd3, hd4⟩ := hF
  intro H locs ls hP hD hS hl
  exact va_get (C := RX3) (T := TX3) (N := 5) hx hb hts inX3 hown hK hP k ((world_get E S hk).trans (by rw [hs])) rfl 0 (by decide) (hts _ hw) (fun _ h => h) hv hd (kk H locs ls hP hD hS hl)
theorem gf3_1 {E : En} {X : Cx} {Q : State → Prop} {S : Mem} {cc : ByteArray} {own : String} {nL d pc : Nat} {ret : Option FieldType} {lv : List (Nat × Value)} {st : List Value} (hF : Fx E X cc own nL ret d) {k idx : Nat} {fs : List Value} {v : Value} (hk : k < 70) (hs : sh E k (S k) = .inr (3, fs)) (hv : fs[1]? = some v) (hw : Cond.fieldLink own idx "SelfScale$Plan" "worlds" "LSelfScale$Worlds;" ∈ BIG) (hd : decode cc pc = .ok (.getfield idx, 3)) (kk : J E X Q S (pc + 3) lv (v :: st)) : J E X Q S pc lv (.ref (eA E k) :: st) := by
  rcases X with ⟨p, l, e, R, s, m, args, below, meth, c, n0, A, cells, slots⟩
  obtain ⟨hx, hb, hml, hn0, hown, hts, hK, hStr, hLit, hr, hlocks, hl0, hd1, hd2, hd3, hd4⟩ := hF
  intro H locs ls hP hD hS hl
  exact va_get (C := RX3) (T := TX3) (N := 5) hx hb hts inX3 hown hK hP k ((world_get E S hk).trans (by rw [hs])) rfl 1 (by decide) (hts _ hw) (fun _ h => h) hv hd (kk H locs ls hP hD hS hl)
theorem gf3_2 {E : En} {X : Cx} {Q : State → Prop} {S : Mem} {cc : ByteArray} {own : String} {nL d pc : Nat} {ret : Option FieldType} {lv : List (Nat × Value)} {st : List Value} (hF : Fx E X cc own nL ret d) {k idx : Nat} {fs : List Value} {v : Value} (hk : k < 70) (hs : sh E k (S k) = .inr (3, fs)) (hv : fs[2]? = some v) (hw : Cond.fieldLink own idx "SelfScale$Plan" "leftByShown" "LSelfScale$Row;" ∈ BIG) (hd : decode cc pc = .ok (.getfield idx, 3)) (kk : J E X Q S (pc + 3) lv (v :: st)) : J E X Q S pc lv (.ref (eA E k) :: st) := by
  rcases X with ⟨p, l, e, R, s, m, args, below, meth, c, n0, A, cells, slots⟩
  obtain ⟨hx, hb, hml, hn0, hown, hts, hK, hStr, hLit, hr, hlocks, hl0, hd1, hd2, hd3, hd4⟩ := hF
  intro H locs ls hP hD hS hl
  exact va_get (C := RX3) (T := TX3) (N := 5) hx hb hts inX3 hown hK hP k ((world_get E S hk).trans (by rw [hs])) rfl 2 (by decide) (hts _ hw) (fun _ h => h) hv hd (kk H locs ls hP hD hS hl)
theorem gf3_3 {E : En} {X : Cx} {Q : State → Prop} {S : Mem} {cc : ByteArray} {own : String} {nL d pc : Nat} {ret : Option FieldType} {lv : List (Nat × Value)} {st : List Value} (hF : Fx E X cc own nL ret d) {k idx : Nat} {fs : List Value} {v : Value} (hk : k < 70) (hs : sh E k (S k) = .inr (3, fs)) (hv : fs[3]? = some v) (hw : Cond.fieldLink own idx "SelfScale$Plan" "seenByOne" "LSelfScale$Row;" ∈ BIG) (hd : decode cc pc = .ok (.getfield idx, 3)) (kk : J E X Q S (pc + 3) lv (v :: st)) : J E X Q S pc lv (.ref (eA E k) :: st) := by
  rcases X with ⟨p, l, e, R, s, m, args, below, meth, c, n0, A, cells, slots⟩
  obtain ⟨hx, hb, hml, hn0, hown, hts, hK, hStr, hLit, hr, hlocks, hl0, hd1, hd2, hd3, hd4⟩ := hF
  intro H locs ls hP hD hS hl
  exact va_get (C := RX3) (T := TX3) (N := 5) hx hb hts inX3 hown hK hP k ((world_get E S hk).trans (by rw [hs])) rfl 3 (by decide) (hts _ hw) (fun _ h => h) hv hd (kk H locs ls hP hD hS hl)
theorem gf3_4 {E : En} {X : Cx} {Q : State → Prop} {S : Mem} {cc : ByteArray} {own : String} {nL d pc : Nat} {ret : Option FieldType} {lv : List (Nat × Value)} {st : List Value} (hF : Fx E X cc own nL ret d) {k idx : Nat} {fs : List Value} {v : Value} (hk : k < 70) (hs : sh E k (S k) = .inr (3, fs)) (hv : fs[4]? = some v) (hw : Cond.fieldLink own idx "SelfScale$Plan" "seenByTwo" "LSelfScale$Row;" ∈ BIG) (hd : decode cc pc = .ok (.getfield idx, 3)) (kk : J E X Q S (pc + 3) lv (v :: st)) : J E X Q S pc lv (.ref (eA E k) :: st) := by
  rcases X with ⟨p, l, e, R, s, m, args, below, meth, c, n0, A, cells, slots⟩
  obtain ⟨hx, hb, hml, hn0, hown, hts, hK, hStr, hLit, hr, hlocks, hl0, hd1, hd2, hd3, hd4⟩ := hF
  intro H locs ls hP hD hS hl
  exact va_get (C := RX3) (T := TX3) (N := 5) hx hb hts inX3 hown hK hP k ((world_get E S hk).trans (by rw [hs])) rfl 4 (by decide) (hts _ hw) (fun _ h => h) hv hd (kk H locs ls hP hD hS hl)
theorem gf4_0 {E : En} {X : Cx} {Q : State → Prop} {S : Mem} {cc : ByteArray} {own : String} {nL d pc : Nat} {ret : Option FieldType} {lv : List (Nat × Value)} {st : List Value} (hF : Fx E X cc own nL ret d) {k idx : Nat} {fs : List Value} {v : Value} (hk : k < 70) (hs : sh E k (S k) = .inr (4, fs)) (hv : fs[0]? = some v) (hw : Cond.fieldLink own idx "SelfScale$Reader" "text" "LSelfScale$Text;" ∈ BIG) (hd : decode cc pc = .ok (.getfield idx, 3)) (kk : J E X Q S (pc + 3) lv (v :: st)) : J E X Q S pc lv (.ref (eA E k) :: st) := by
  rcases X with ⟨p, l, e, R, s, m, args, below, meth, c, n0, A, cells, slots⟩
  obtain ⟨hx, hb, hml, hn0, hown, hts, hK, hStr, hLit, hr, hlocks, hl0, hd1, hd2, hd3, hd4⟩ := hF
  intro H locs ls hP hD hS hl
  exact va_get (C := RX4) (T := TX4) (N := 8) hx hb hts inX4 hown hK hP k ((world_get E S hk).trans (by rw [hs])) rfl 0 (by decide) (hts _ hw) (fun _ h => h) hv hd (kk H locs ls hP hD hS hl)
theorem gf4_1 {E : En} {X : Cx} {Q : State → Prop} {S : Mem} {cc : ByteArray} {own : String} {nL d pc : Nat} {ret : Option FieldType} {lv : List (Nat × Value)} {st : List Value} (hF : Fx E X cc own nL ret d) {k idx : Nat} {fs : List Value} {v : Value} (hk : k < 70) (hs : sh E k (S k) = .inr (4, fs)) (hv : fs[1]? = some v) (hw : Cond.fieldLink own idx "SelfScale$Reader" "told" "LSelfScale$Scale;" ∈ BIG) (hd : decode cc pc = .ok (.getfield idx, 3)) (kk : J E X Q S (pc + 3) lv (v :: st)) : J E X Q S pc lv (.ref (eA E k) :: st) := by
  rcases X with ⟨p, l, e, R, s, m, args, below, meth, c, n0, A, cells, slots⟩
  obtain ⟨hx, hb, hml, hn0, hown, hts, hK, hStr, hLit, hr, hlocks, hl0, hd1, hd2, hd3, hd4⟩ := hF
  intro H locs ls hP hD hS hl
  exact va_get (C := RX4) (T := TX4) (N := 8) hx hb hts inX4 hown hK hP k ((world_get E S hk).trans (by rw [hs])) rfl 1 (by decide) (hts _ hw) (fun _ h => h) hv hd (kk H locs ls hP hD hS hl)
theorem gf4_2 {E : En} {X : Cx} {Q : State → Prop} {S : Mem} {cc : ByteArray} {own : String} {nL d pc : Nat} {ret : Option FieldType} {lv : List (Nat × Value)} {st : List Value} (hF : Fx E X cc own nL ret d) {k idx : Nat} {fs : List Value} {v : Value} (hk : k < 70) (hs : sh E k (S k) = .inr (4, fs)) (hv : fs[2]? = some v) (hw : Cond.fieldLink own idx "SelfScale$Reader" "items" "I" ∈ BIG) (hd : decode cc pc = .ok (.getfield idx, 3)) (kk : J E X Q S (pc + 3) lv (v :: st)) : J E X Q S pc lv (.ref (eA E k) :: st) := by
  rcases X with ⟨p, l, e, R, s, m, args, below, meth, c, n0, A, cells, slots⟩
  obtain ⟨hx, hb, hml, hn0, hown, hts, hK, hStr, hLit, hr, hlocks, hl0, hd1, hd2, hd3, hd4⟩ := hF
  intro H locs ls hP hD hS hl
  exact va_get (C := RX4) (T := TX4) (N := 8) hx hb hts inX4 hown hK hP k ((world_get E S hk).trans (by rw [hs])) rfl 2 (by decide) (hts _ hw) (fun _ h => h) hv hd (kk H locs ls hP hD hS hl)
theorem pf4_2 {E : En} {X : Cx} {Q : State → Prop} {S : Mem} {cc : ByteArray} {own : String} {nL d pc : Nat} {ret : Option FieldType} {lv : List (Nat × Value)} {st : List Value} (hF : Fx E X cc own nL ret d) {k idx : Nat} {fs : List Value} {x : Int32} (hk : k < 70) (hs : sh E k (S k) = .inr (4, fs)) (hs2 : sh E k (upd (S k).1 2 x, (S k).2) = .inr (4, fs.set 2 (.int x))) (hlen : 2 < fs.length) (hw : Cond.fieldLink own idx "SelfScale$Reader" "items" "I" ∈ BIG) (hd : decode cc pc = .ok (.putfield idx, 3)) (kk : J E X Q (wr S k 2 x) (pc + 3) lv st) : J E X Q S pc lv (.int x :: .ref (eA E k) :: st) := by
  rcases X with ⟨p, l, e, R, s, m, args, below, meth, c, n0, A, cells, slots⟩
  obtain ⟨hx, hb, hml, hn0, hown, hts, hK, hStr, hLit, hr, hlocks, hl0, hd1, hd2, hd3, hd4⟩ := hF
  intro H locs ls hP hD hS hl
  have e9 : (world E S).set k (eA E k, .inr (4, fs.set 2 (.int x))) = world E (wr S k 2 x) := by
    rw [← hs2, ← wr_at S k 2 x]
    exact world_set E hk (fun a h => wr_ne S k 2 x h)
  refine va_put (C := RX4) (T := TX4) (N := 8) (ty := .int) hx hb hts inX4 tyX4 tyX4_ok nmX4 hown hK hP hD hS k ((world_get E S hk).trans (by rw [hs])) rfl 2 (by decide) (hts _ hw) (fun _ h => h) rfl (by decide +kernel) rfl rfl hlen hd (fun H1 locs1 hP hD hS => ?_)
  rw [e9] at hP hD
  exact kk H1 locs1 ls hP hD hS hl
theorem gf4_3 {E : En} {X : Cx} {Q : State → Prop} {S : Mem} {cc : ByteArray} {own : String} {nL d pc : Nat} {ret : Option FieldType} {lv : List (Nat × Value)} {st : List Value} (hF : Fx E X cc own nL ret d) {k idx : Nat} {fs : List Value} {v : Value} (hk : k < 70) (hs : sh E k (S k) = .inr (4, fs)) (hv : fs[3]? = some v) (hw : Cond.fieldLink own idx "SelfScale$Reader" "isOwnTold" "Z" ∈ BIG) (hd : decode cc pc = .ok (.getfield idx, 3)) (kk : J E X Q S (pc + 3) lv (v :: st)) : J E X Q S pc lv (.ref (eA E k) :: st) := by
  rcases X with ⟨p, l, e, R, s, m, args, below, meth, c, n0, A, cells, slots⟩
  obtain ⟨hx, hb, hml, hn0, hown, hts, hK, hStr, hLit, hr, hlocks, hl0, hd1, hd2, hd3, hd4⟩ := hF
  intro H locs ls hP hD hS hl
  exact va_get (C := RX4) (T := TX4) (N := 8) hx hb hts inX4 hown hK hP k ((world_get E S hk).trans (by rw [hs])) rfl 3 (by decide) (hts _ hw) (fun _ h => h) hv hd (kk H locs ls hP hD hS hl)
theorem pf4_3 {E : En} {X : Cx} {Q : State → Prop} {S : Mem} {cc : ByteArray} {own : String} {nL d pc : Nat} {ret : Option FieldType} {lv : List (Nat × Value)} {st : List Value} (hF : Fx E X cc own nL ret d) {k idx : Nat} {fs : List Value} {x : Int32} (hn : narrow .boolean (.int x) = .int x) (hf : fits .boolean (.int x) = true) (hk : k < 70) (hs : sh E k (S k) = .inr (4, fs)) (hs2 : sh E k (upd (S k).1 3 x, (S k).2) = .inr (4, fs.set 3 (.int x))) (hlen : 3 < fs.length) (hw : Cond.fieldLink own idx "SelfScale$Reader" "isOwnTold" "Z" ∈ BIG) (hd : decode cc pc = .ok (.putfield idx, 3)) (kk : J E X Q (wr S k 3 x) (pc + 3) lv st) : J E X Q S pc lv (.int x :: .ref (eA E k) :: st) := by
  rcases X with ⟨p, l, e, R, s, m, args, below, meth, c, n0, A, cells, slots⟩
  obtain ⟨hx, hb, hml, hn0, hown, hts, hK, hStr, hLit, hr, hlocks, hl0, hd1, hd2, hd3, hd4⟩ := hF
  intro H locs ls hP hD hS hl
  have e9 : (world E S).set k (eA E k, .inr (4, fs.set 3 (.int x))) = world E (wr S k 3 x) := by
    rw [← hs2, ← wr_at S k 3 x]
    exact world_set E hk (fun a h => wr_ne S k 3 x h)
  refine va_put (C := RX4) (T := TX4) (N := 8) (ty := .boolean) hx hb hts inX4 tyX4 tyX4_ok nmX4 hown hK hP hD hS k ((world_get E S hk).trans (by rw [hs])) rfl 3 (by decide) (hts _ hw) (fun _ h => h) rfl (by decide +kernel) hn hf hlen hd (fun H1 locs1 hP hD hS => ?_)
  rw [e9] at hP hD
  exact kk H1 locs1 ls hP hD hS hl
theorem gf4_4 {E : En} {X : Cx} {Q : State → Prop} {S : Mem} {cc : ByteArray} {own : String} {nL d pc : Nat} {ret : Option FieldType} {lv : List (Nat × Value)} {st : List Value} (hF : Fx E X cc own nL ret d) {k idx : Nat} {fs : List Value} {v : Value} (hk : k < 70) (hs : sh E k (S k) = .inr (4, fs)) (hv : fs[4]? = some v) (hw : Cond.fieldLink own idx "SelfScale$Reader" "areFiguresTold" "Z" ∈ BIG) (hd : decode cc pc = .ok (.getfield idx, 3)) (kk : J E X Q S (pc + 3) lv (v :: st)) : J E X Q S pc lv (.ref (eA E k) :: st) := by
  rcases X with ⟨p, l, e, R, s, m, args, below, meth, c, n0, A, cells, slots⟩
  obtain ⟨hx, hb, hml, hn0, hown, hts, hK, hStr, hLit, hr, hlocks, hl0, hd1, hd2, hd3, hd4⟩ := hF
  intro H locs ls hP hD hS hl
  exact va_get (C := RX4) (T := TX4) (N := 8) hx hb hts inX4 hown hK hP k ((world_get E S hk).trans (by rw [hs])) rfl 4 (by decide) (hts _ hw) (fun _ h => h) hv hd (kk H locs ls hP hD hS hl)
theorem pf4_4 {E : En} {X : Cx} {Q : State → Prop} {S : Mem} {cc : ByteArray} {own : String} {nL d pc : Nat} {ret : Option FieldType} {lv : List (Nat × Value)} {st : List Value} (hF : Fx E X cc own nL ret d) {k idx : Nat} {fs : List Value} {x : Int32} (hn : narrow .boolean (.int x) = .int x) (hf : fits .boolean (.int x) = true) (hk : k < 70) (hs : sh E k (S k) = .inr (4, fs)) (hs2 : sh E k (upd (S k).1 4 x, (S k).2) = .inr (4, fs.set 4 (.int x))) (hlen : 4 < fs.length) (hw : Cond.fieldLink own idx "SelfScale$Reader" "areFiguresTold" "Z" ∈ BIG) (hd : decode cc pc = .ok (.putfield idx, 3)) (kk : J E X Q (wr S k 4 x) (pc + 3) lv st) : J E X Q S pc lv (.int x :: .ref (eA E k) :: st) := by
  rcases X with ⟨p, l, e, R, s, m, args, below, meth, c, n0, A, cells, slots⟩
  obtain ⟨hx, hb, hml, hn0, hown, hts, hK, hStr, hLit, hr, hlocks, hl0, hd1, hd2, hd3, hd4⟩ := hF
  intro H locs ls hP hD hS hl
  have e9 : (world E S).set k (eA E k, .inr (4, fs.set 4 (.int x))) = world E (wr S k 4 x) := by
    rw [← hs2, ← wr_at S k 4 x]
    exact world_set E hk (fun a h => wr_ne S k 4 x h)
  refine va_put (C := RX4) (T := TX4) (N := 8) (ty := .boolean) hx hb hts inX4 tyX4 tyX4_ok nmX4 hown hK hP hD hS k ((world_get E S hk).trans (by rw [hs])) rfl 4 (by decide) (hts _ hw) (fun _ h => h) rfl (by decide +kernel) hn hf hlen hd (fun H1 locs1 hP hD hS => ?_)
  rw [e9] at hP hD
  exact kk H1 locs1 ls hP hD hS hl
theorem gf4_5 {E : En} {X : Cx} {Q : State → Prop} {S : Mem} {cc : ByteArray} {own : String} {nL d pc : Nat} {ret : Option FieldType} {lv : List (Nat × Value)} {st : List Value} (hF : Fx E X cc own nL ret d) {k idx : Nat} {fs : List Value} {v : Value} (hk : k < 70) (hs : sh E k (S k) = .inr (4, fs)) (hv : fs[5]? = some v) (hw : Cond.fieldLink own idx "SelfScale$Reader" "start" "I" ∈ BIG) (hd : decode cc pc = .ok (.getfield idx, 3)) (kk : J E X Q S (pc + 3) lv (v :: st)) : J E X Q S pc lv (.ref (eA E k) :: st) := by
  rcases X with ⟨p, l, e, R, s, m, args, below, meth, c, n0, A, cells, slots⟩
  obtain ⟨hx, hb, hml, hn0, hown, hts, hK, hStr, hLit, hr, hlocks, hl0, hd1, hd2, hd3, hd4⟩ := hF
  intro H locs ls hP hD hS hl
  exact va_get (C := RX4) (T := TX4) (N := 8) hx hb hts inX4 hown hK hP k ((world_get E S hk).trans (by rw [hs])) rfl 5 (by decide) (hts _ hw) (fun _ h => h) hv hd (kk H locs ls hP hD hS hl)
theorem pf4_5 {E : En} {X : Cx} {Q : State → Prop} {S : Mem} {cc : ByteArray} {own : String} {nL d pc : Nat} {ret : Option FieldType} {lv : List (Nat × Value)} {st : List Value} (hF : Fx E X cc own nL ret d) {k idx : Nat} {fs : List Value} {x : Int32} (hk : k < 70) (hs : sh E k (S k) = .inr (4, fs)) (hs2 : sh E k (upd (S k).1 5 x, (S k).2) = .inr (4, fs.set 5 (.int x))) (hlen : 5 < fs.length) (hw : Cond.fieldLink own idx "SelfScale$Reader" "start" "I" ∈ BIG) (hd : decode cc pc = .ok (.putfield idx, 3)) (kk : J E X Q (wr S k 5 x) (pc + 3) lv st) : J E X Q S pc lv (.int x :: .ref (eA E k) :: st) := by
  rcases X with ⟨p, l, e, R, s, m, args, below, meth, c, n0, A, cells, slots⟩
  obtain ⟨hx, hb, hml, hn0, hown, hts, hK, hStr, hLit, hr, hlocks, hl0, hd1, hd2, hd3, hd4⟩ := hF
  intro H locs ls hP hD hS hl
  have e9 : (world E S).set k (eA E k, .inr (4, fs.set 5 (.int x))) = world E (wr S k 5 x) := by
    rw [← hs2, ← wr_at S k 5 x]
    exact world_set E hk (fun a h => wr_ne S k 5 x h)
  refine va_put (C := RX4) (T := TX4) (N := 8) (ty := .int) hx hb hts inX4 tyX4 tyX4_ok nmX4 hown hK hP hD hS k ((world_get E S hk).trans (by rw [hs])) rfl 5 (by decide) (hts _ hw) (fun _ h => h) rfl (by decide +kernel) rfl rfl hlen hd (fun H1 locs1 hP hD hS => ?_)
  rw [e9] at hP hD
  exact kk H1 locs1 ls hP hD hS hl
theorem gf4_6 {E : En} {X : Cx} {Q : State → Prop} {S : Mem} {cc : ByteArray} {own : String} {nL d pc : Nat} {ret : Option FieldType} {lv : List (Nat × Value)} {st : List Value} (hF : Fx E X cc own nL ret d) {k idx : Nat} {fs : List Value} {v : Value} (hk : k < 70) (hs : sh E k (S k) = .inr (4, fs)) (hv : fs[6]? = some v) (hw : Cond.fieldLink own idx "SelfScale$Reader" "end" "I" ∈ BIG) (hd : decode cc pc = .ok (.getfield idx, 3)) (kk : J E X Q S (pc + 3) lv (v :: st)) : J E X Q S pc lv (.ref (eA E k) :: st) := by
  rcases X with ⟨p, l, e, R, s, m, args, below, meth, c, n0, A, cells, slots⟩
  obtain ⟨hx, hb, hml, hn0, hown, hts, hK, hStr, hLit, hr, hlocks, hl0, hd1, hd2, hd3, hd4⟩ := hF
  intro H locs ls hP hD hS hl
  exact va_get (C := RX4) (T := TX4) (N := 8) hx hb hts inX4 hown hK hP k ((world_get E S hk).trans (by rw [hs])) rfl 6 (by decide) (hts _ hw) (fun _ h => h) hv hd (kk H locs ls hP hD hS hl)
theorem pf4_6 {E : En} {X : Cx} {Q : State → Prop} {S : Mem} {cc : ByteArray} {own : String} {nL d pc : Nat} {ret : Option FieldType} {lv : List (Nat × Value)} {st : List Value} (hF : Fx E X cc own nL ret d) {k idx : Nat} {fs : List Value} {x : Int32} (hk : k < 70) (hs : sh E k (S k) = .inr (4, fs)) (hs2 : sh E k (upd (S k).1 6 x, (S k).2) = .inr (4, fs.set 6 (.int x))) (hlen : 6 < fs.length) (hw : Cond.fieldLink own idx "SelfScale$Reader" "end" "I" ∈ BIG) (hd : decode cc pc = .ok (.putfield idx, 3)) (kk : J E X Q (wr S k 6 x) (pc + 3) lv st) : J E X Q S pc lv (.int x :: .ref (eA E k) :: st) := by
  rcases X with ⟨p, l, e, R, s, m, args, below, meth, c, n0, A, cells, slots⟩
  obtain ⟨hx, hb, hml, hn0, hown, hts, hK, hStr, hLit, hr, hlocks, hl0, hd1, hd2, hd3, hd4⟩ := hF
  intro H locs ls hP hD hS hl
  have e9 : (world E S).set k (eA E k, .inr (4, fs.set 6 (.int x))) = world E (wr S k 6 x) := by
    rw [← hs2, ← wr_at S k 6 x]
    exact world_set E hk (fun a h => wr_ne S k 6 x h)
  refine va_put (C := RX4) (T := TX4) (N := 8) (ty := .int) hx hb hts inX4 tyX4 tyX4_ok nmX4 hown hK hP hD hS k ((world_get E S hk).trans (by rw [hs])) rfl 6 (by decide) (hts _ hw) (fun _ h => h) rfl (by decide +kernel) rfl rfl hlen hd (fun H1 locs1 hP hD hS => ?_)
  rw [e9] at hP hD
  exact kk H1 locs1 ls hP hD hS hl
theorem gf4_7 {E : En} {X : Cx} {Q : State → Prop} {S : Mem} {cc : ByteArray} {own : String} {nL d pc : Nat} {ret : Option FieldType} {lv : List (Nat × Value)} {st : List Value} (hF : Fx E X cc own nL ret d) {k idx : Nat} {fs : List Value} {v : Value} (hk : k < 70) (hs : sh E k (S k) = .inr (4, fs)) (hv : fs[7]? = some v) (hw : Cond.fieldLink own idx "SelfScale$Reader" "number" "I" ∈ BIG) (hd : decode cc pc = .ok (.getfield idx, 3)) (kk : J E X Q S (pc + 3) lv (v :: st)) : J E X Q S pc lv (.ref (eA E k) :: st) := by
  rcases X with ⟨p, l, e, R, s, m, args, below, meth, c, n0, A, cells, slots⟩
  obtain ⟨hx, hb, hml, hn0, hown, hts, hK, hStr, hLit, hr, hlocks, hl0, hd1, hd2, hd3, hd4⟩ := hF
  intro H locs ls hP hD hS hl
  exact va_get (C := RX4) (T := TX4) (N := 8) hx hb hts inX4 hown hK hP k ((world_get E S hk).trans (by rw [hs])) rfl 7 (by decide) (hts _ hw) (fun _ h => h) hv hd (kk H locs ls hP hD hS hl)
theorem pf4_7 {E : En} {X : Cx} {Q : State → Prop} {S : Mem} {cc : ByteArray} {own : String} {nL d pc : Nat} {ret : Option FieldType} {lv : List (Nat × Value)} {st : List Value} (hF : Fx E X cc own nL ret d) {k idx : Nat} {fs : List Value} {x : Int32} (hk : k < 70) (hs : sh E k (S k) = .inr (4, fs)) (hs2 : sh E k (upd (S k).1 7 x, (S k).2) = .inr (4, fs.set 7 (.int x))) (hlen : 7 < fs.length) (hw : Cond.fieldLink own idx "SelfScale$Reader" "number" "I" ∈ BIG) (hd : decode cc pc = .ok (.putfield idx, 3)) (kk : J E X Q (wr S k 7 x) (pc + 3) lv st) : J E X Q S pc lv (.int x :: .ref (eA E k) :: st) := by
  rcases X with ⟨p, l, e, R, s, m, args, below, meth, c, n0, A, cells, slots⟩
  obtain ⟨hx, hb, hml, hn0, hown, hts, hK, hStr, hLit, hr, hlocks, hl0, hd1, hd2, hd3, hd4⟩ := hF
  intro H locs ls hP hD hS hl
  have e9 : (world E S).set k (eA E k, .inr (4, fs.set 7 (.int x))) = world E (wr S k 7 x) := by
    rw [← hs2, ← wr_at S k 7 x]
    exact world_set E hk (fun a h => wr_ne S k 7 x h)
  refine va_put (C := RX4) (T := TX4) (N := 8) (ty := .int) hx hb hts inX4 tyX4 tyX4_ok nmX4 hown hK hP hD hS k ((world_get E S hk).trans (by rw [hs])) rfl 7 (by decide) (hts _ hw) (fun _ h => h) rfl (by decide +kernel) rfl rfl hlen hd (fun H1 locs1 hP hD hS => ?_)
  rw [e9] at hP hD
  exact kk H1 locs1 ls hP hD hS hl
theorem gf5_0 {E : En} {X : Cx} {Q : State → Prop} {S : Mem} {cc : ByteArray} {own : String} {nL d pc : Nat} {ret : Option FieldType} {lv : List (Nat × Value)} {st : List Value} (hF : Fx E X cc own nL ret d) {k idx : Nat} {fs : List Value} {v : Value} (hk : k < 70) (hs : sh E k (S k) = .inr (5, fs)) (hv : fs[0]? = some v) (hw : Cond.fieldLink own idx "SelfScale$Row" "cells" "[I" ∈ BIG) (hd : decode cc pc = .ok (.getfield idx, 3)) (kk : J E X Q S (pc + 3) lv (v :: st)) : J E X Q S pc lv (.ref (eA E k) :: st) := by
  rcases X with ⟨p, l, e, R, s, m, args, below, meth, c, n0, A, cells, slots⟩
  obtain ⟨hx, hb, hml, hn0, hown, hts, hK, hStr, hLit, hr, hlocks, hl0, hd1, hd2, hd3, hd4⟩ := hF
  intro H locs ls hP hD hS hl
  exact va_get (C := RX5) (T := TX5) (N := 1) hx hb hts inX5 hown hK hP k ((world_get E S hk).trans (by rw [hs])) rfl 0 (by decide) (hts _ hw) (fun _ h => h) hv hd (kk H locs ls hP hD hS hl)
theorem gf6_0 {E : En} {X : Cx} {Q : State → Prop} {S : Mem} {cc : ByteArray} {own : String} {nL d pc : Nat} {ret : Option FieldType} {lv : List (Nat × Value)} {st : List Value} (hF : Fx E X cc own nL ret d) {k idx : Nat} {fs : List Value} {v : Value} (hk : k < 70) (hs : sh E k (S k) = .inr (6, fs)) (hv : fs[0]? = some v) (hw : Cond.fieldLink own idx "SelfScale$Scale" "weights" "LSelfScale$Row;" ∈ BIG) (hd : decode cc pc = .ok (.getfield idx, 3)) (kk : J E X Q S (pc + 3) lv (v :: st)) : J E X Q S pc lv (.ref (eA E k) :: st) := by
  rcases X with ⟨p, l, e, R, s, m, args, below, meth, c, n0, A, cells, slots⟩
  obtain ⟨hx, hb, hml, hn0, hown, hts, hK, hStr, hLit, hr, hlocks, hl0, hd1, hd2, hd3, hd4⟩ := hF
  intro H locs ls hP hD hS hl
  exact va_get (C := RX6) (T := TX6) (N := 5) hx hb hts inX6 hown hK hP k ((world_get E S hk).trans (by rw [hs])) rfl 0 (by decide) (hts _ hw) (fun _ h => h) hv hd (kk H locs ls hP hD hS hl)
theorem gf6_1 {E : En} {X : Cx} {Q : State → Prop} {S : Mem} {cc : ByteArray} {own : String} {nL d pc : Nat} {ret : Option FieldType} {lv : List (Nat × Value)} {st : List Value} (hF : Fx E X cc own nL ret d) {k idx : Nat} {fs : List Value} {v : Value} (hk : k < 70) (hs : sh E k (S k) = .inr (6, fs)) (hv : fs[1]? = some v) (hw : Cond.fieldLink own idx "SelfScale$Scale" "outcomes" "LSelfScale$Row;" ∈ BIG) (hd : decode cc pc = .ok (.getfield idx, 3)) (kk : J E X Q S (pc + 3) lv (v :: st)) : J E X Q S pc lv (.ref (eA E k) :: st) := by
  rcases X with ⟨p, l, e, R, s, m, args, below, meth, c, n0, A, cells, slots⟩
  obtain ⟨hx, hb, hml, hn0, hown, hts, hK, hStr, hLit, hr, hlocks, hl0, hd1, hd2, hd3, hd4⟩ := hF
  intro H locs ls hP hD hS hl
  exact va_get (C := RX6) (T := TX6) (N := 5) hx hb hts inX6 hown hK hP k ((world_get E S hk).trans (by rw [hs])) rfl 1 (by decide) (hts _ hw) (fun _ h => h) hv hd (kk H locs ls hP hD hS hl)
theorem gf6_2 {E : En} {X : Cx} {Q : State → Prop} {S : Mem} {cc : ByteArray} {own : String} {nL d pc : Nat} {ret : Option FieldType} {lv : List (Nat × Value)} {st : List Value} (hF : Fx E X cc own nL ret d) {k idx : Nat} {fs : List Value} {v : Value} (hk : k < 70) (hs : sh E k (S k) = .inr (6, fs)) (hv : fs[2]? = some v) (hw : Cond.fieldLink own idx "SelfScale$Scale" "things" "I" ∈ BIG) (hd : decode cc pc = .ok (.getfield idx, 3)) (kk : J E X Q S (pc + 3) lv (v :: st)) : J E X Q S pc lv (.ref (eA E k) :: st) := by
  rcases X with ⟨p, l, e, R, s, m, args, below, meth, c, n0, A, cells, slots⟩
  obtain ⟨hx, hb, hml, hn0, hown, hts, hK, hStr, hLit, hr, hlocks, hl0, hd1, hd2, hd3, hd4⟩ := hF
  intro H locs ls hP hD hS hl
  exact va_get (C := RX6) (T := TX6) (N := 5) hx hb hts inX6 hown hK hP k ((world_get E S hk).trans (by rw [hs])) rfl 2 (by decide) (hts _ hw) (fun _ h => h) hv hd (kk H locs ls hP hD hS hl)
theorem pf6_2 {E : En} {X : Cx} {Q : State → Prop} {S : Mem} {cc : ByteArray} {own : String} {nL d pc : Nat} {ret : Option FieldType} {lv : List (Nat × Value)} {st : List Value} (hF : Fx E X cc own nL ret d) {k idx : Nat} {fs : List Value} {x : Int32} (hk : k < 70) (hs : sh E k (S k) = .inr (6, fs)) (hs2 : sh E k (upd (S k).1 2 x, (S k).2) = .inr (6, fs.set 2 (.int x))) (hlen : 2 < fs.length) (hw : Cond.fieldLink own idx "SelfScale$Scale" "things" "I" ∈ BIG) (hd : decode cc pc = .ok (.putfield idx, 3)) (kk : J E X Q (wr S k 2 x) (pc + 3) lv st) : J E X Q S pc lv (.int x :: .ref (eA E k) :: st) := by
  rcases X with ⟨p, l, e, R, s, m, args, below, meth, c, n0, A, cells, slots⟩
  obtain ⟨hx, hb, hml, hn0, hown, hts, hK, hStr, hLit, hr, hlocks, hl0, hd1, hd2, hd3, hd4⟩ := hF
  intro H locs ls hP hD hS hl
  have e9 : (world E S).set k (eA E k, .inr (6, fs.set 2 (.int x))) = world E (wr S k 2 x) := by
    rw [← hs2, ← wr_at S k 2 x]
    exact world_set E hk (fun a h => wr_ne S k 2 x h)
  refine va_put (C := RX6) (T := TX6) (N := 5) (ty := .int) hx hb hts inX6 tyX6 tyX6_ok nmX6 hown hK hP hD hS k ((world_get E S hk).trans (by rw [hs])) rfl 2 (by decide) (hts _ hw) (fun _ h => h) rfl (by decide +kernel) rfl rfl hlen hd (fun H1 locs1 hP hD hS => ?_)
  rw [e9] at hP hD
  exact kk H1 locs1 ls hP hD hS hl
theorem gf6_3 {E : En} {X : Cx} {Q : State → Prop} {S : Mem} {cc : ByteArray} {own : String} {nL d pc : Nat} {ret : Option FieldType} {lv : List (Nat × Value)} {st : List Value} (hF : Fx E X cc own nL ret d) {k idx : Nat} {fs : List Value} {v : Value} (hk : k < 70) (hs : sh E k (S k) = .inr (6, fs)) (hv : fs[3]? = some v) (hw : Cond.fieldLink own idx "SelfScale$Scale" "own" "I" ∈ BIG) (hd : decode cc pc = .ok (.getfield idx, 3)) (kk : J E X Q S (pc + 3) lv (v :: st)) : J E X Q S pc lv (.ref (eA E k) :: st) := by
  rcases X with ⟨p, l, e, R, s, m, args, below, meth, c, n0, A, cells, slots⟩
  obtain ⟨hx, hb, hml, hn0, hown, hts, hK, hStr, hLit, hr, hlocks, hl0, hd1, hd2, hd3, hd4⟩ := hF
  intro H locs ls hP hD hS hl
  exact va_get (C := RX6) (T := TX6) (N := 5) hx hb hts inX6 hown hK hP k ((world_get E S hk).trans (by rw [hs])) rfl 3 (by decide) (hts _ hw) (fun _ h => h) hv hd (kk H locs ls hP hD hS hl)
theorem pf6_3 {E : En} {X : Cx} {Q : State → Prop} {S : Mem} {cc : ByteArray} {own : String} {nL d pc : Nat} {ret : Option FieldType} {lv : List (Nat × Value)} {st : List Value} (hF : Fx E X cc own nL ret d) {k idx : Nat} {fs : List Value} {x : Int32} (hk : k < 70) (hs : sh E k (S k) = .inr (6, fs)) (hs2 : sh E k (upd (S k).1 3 x, (S k).2) = .inr (6, fs.set 3 (.int x))) (hlen : 3 < fs.length) (hw : Cond.fieldLink own idx "SelfScale$Scale" "own" "I" ∈ BIG) (hd : decode cc pc = .ok (.putfield idx, 3)) (kk : J E X Q (wr S k 3 x) (pc + 3) lv st) : J E X Q S pc lv (.int x :: .ref (eA E k) :: st) := by
  rcases X with ⟨p, l, e, R, s, m, args, below, meth, c, n0, A, cells, slots⟩
  obtain ⟨hx, hb, hml, hn0, hown, hts, hK, hStr, hLit, hr, hlocks, hl0, hd1, hd2, hd3, hd4⟩ := hF
  intro H locs ls hP hD hS hl
  have e9 : (world E S).set k (eA E k, .inr (6, fs.set 3 (.int x))) = world E (wr S k 3 x) := by
    rw [← hs2, ← wr_at S k 3 x]
    exact world_set E hk (fun a h => wr_ne S k 3 x h)
  refine va_put (C := RX6) (T := TX6) (N := 5) (ty := .int) hx hb hts inX6 tyX6 tyX6_ok nmX6 hown hK hP hD hS k ((world_get E S hk).trans (by rw [hs])) rfl 3 (by decide) (hts _ hw) (fun _ h => h) rfl (by decide +kernel) rfl rfl hlen hd (fun H1 locs1 hP hD hS => ?_)
  rw [e9] at hP hD
  exact kk H1 locs1 ls hP hD hS hl
theorem gf6_4 {E : En} {X : Cx} {Q : State → Prop} {S : Mem} {cc : ByteArray} {own : String} {nL d pc : Nat} {ret : Option FieldType} {lv : List (Nat × Value)} {st : List Value} (hF : Fx E X cc own nL ret d) {k idx : Nat} {fs : List Value} {v : Value} (hk : k < 70) (hs : sh E k (S k) = .inr (6, fs)) (hv : fs[4]? = some v) (hw : Cond.fieldLink own idx "SelfScale$Scale" "figures" "I" ∈ BIG) (hd : decode cc pc = .ok (.getfield idx, 3)) (kk : J E X Q S (pc + 3) lv (v :: st)) : J E X Q S pc lv (.ref (eA E k) :: st) := by
  rcases X with ⟨p, l, e, R, s, m, args, below, meth, c, n0, A, cells, slots⟩
  obtain ⟨hx, hb, hml, hn0, hown, hts, hK, hStr, hLit, hr, hlocks, hl0, hd1, hd2, hd3, hd4⟩ := hF
  intro H locs ls hP hD hS hl
  exact va_get (C := RX6) (T := TX6) (N := 5) hx hb hts inX6 hown hK hP k ((world_get E S hk).trans (by rw [hs])) rfl 4 (by decide) (hts _ hw) (fun _ h => h) hv hd (kk H locs ls hP hD hS hl)
theorem pf6_4 {E : En} {X : Cx} {Q : State → Prop} {S : Mem} {cc : ByteArray} {own : String} {nL d pc : Nat} {ret : Option FieldType} {lv : List (Nat × Value)} {st : List Value} (hF : Fx E X cc own nL ret d) {k idx : Nat} {fs : List Value} {x : Int32} (hk : k < 70) (hs : sh E k (S k) = .inr (6, fs)) (hs2 : sh E k (upd (S k).1 4 x, (S k).2) = .inr (6, fs.set 4 (.int x))) (hlen : 4 < fs.length) (hw : Cond.fieldLink own idx "SelfScale$Scale" "figures" "I" ∈ BIG) (hd : decode cc pc = .ok (.putfield idx, 3)) (kk : J E X Q (wr S k 4 x) (pc + 3) lv st) : J E X Q S pc lv (.int x :: .ref (eA E k) :: st) := by
  rcases X with ⟨p, l, e, R, s, m, args, below, meth, c, n0, A, cells, slots⟩
  obtain ⟨hx, hb, hml, hn0, hown, hts, hK, hStr, hLit, hr, hlocks, hl0, hd1, hd2, hd3, hd4⟩ := hF
  intro H locs ls hP hD hS hl
  have e9 : (world E S).set k (eA E k, .inr (6, fs.set 4 (.int x))) = world E (wr S k 4 x) := by
    rw [← hs2, ← wr_at S k 4 x]
    exact world_set E hk (fun a h => wr_ne S k 4 x h)
  refine va_put (C := RX6) (T := TX6) (N := 5) (ty := .int) hx hb hts inX6 tyX6 tyX6_ok nmX6 hown hK hP hD hS k ((world_get E S hk).trans (by rw [hs])) rfl 4 (by decide) (hts _ hw) (fun _ h => h) rfl (by decide +kernel) rfl rfl hlen hd (fun H1 locs1 hP hD hS => ?_)
  rw [e9] at hP hD
  exact kk H1 locs1 ls hP hD hS hl
theorem gf7_0 {E : En} {X : Cx} {Q : State → Prop} {S : Mem} {cc : ByteArray} {own : String} {nL d pc : Nat} {ret : Option FieldType} {lv : List (Nat × Value)} {st : List Value} (hF : Fx E X cc own nL ret d) {k idx : Nat} {fs : List Value} {v : Value} (hk : k < 70) (hs : sh E k (S k) = .inr (7, fs)) (hv : fs[0]? = some v) (hw : Cond.fieldLink own idx "SelfScale$Text" "bytes" "LSelfScale$Row;" ∈ BIG) (hd : decode cc pc = .ok (.getfield idx, 3)) (kk : J E X Q S (pc + 3) lv (v :: st)) : J E X Q S pc lv (.ref (eA E k) :: st) := by
  rcases X with ⟨p, l, e, R, s, m, args, below, meth, c, n0, A, cells, slots⟩
  obtain ⟨hx, hb, hml, hn0, hown, hts, hK, hStr, hLit, hr, hlocks, hl0, hd1, hd2, hd3, hd4⟩ := hF
  intro H locs ls hP hD hS hl
  exact va_get (C := RX7) (T := TX7) (N := 2) hx hb hts inX7 hown hK hP k ((world_get E S hk).trans (by rw [hs])) rfl 0 (by decide) (hts _ hw) (fun _ h => h) hv hd (kk H locs ls hP hD hS hl)
theorem gf7_1 {E : En} {X : Cx} {Q : State → Prop} {S : Mem} {cc : ByteArray} {own : String} {nL d pc : Nat} {ret : Option FieldType} {lv : List (Nat × Value)} {st : List Value} (hF : Fx E X cc own nL ret d) {k idx : Nat} {fs : List Value} {v : Value} (hk : k < 70) (hs : sh E k (S k) = .inr (7, fs)) (hv : fs[1]? = some v) (hw : Cond.fieldLink own idx "SelfScale$Text" "length" "I" ∈ BIG) (hd : decode cc pc = .ok (.getfield idx, 3)) (kk : J E X Q S (pc + 3) lv (v :: st)) : J E X Q S pc lv (.ref (eA E k) :: st) := by
  rcases X with ⟨p, l, e, R, s, m, args, below, meth, c, n0, A, cells, slots⟩
  obtain ⟨hx, hb, hml, hn0, hown, hts, hK, hStr, hLit, hr, hlocks, hl0, hd1, hd2, hd3, hd4⟩ := hF
  intro H locs ls hP hD hS hl
  exact va_get (C := RX7) (T := TX7) (N := 2) hx hb hts inX7 hown hK hP k ((world_get E S hk).trans (by rw [hs])) rfl 1 (by decide) (hts _ hw) (fun _ h => h) hv hd (kk H locs ls hP hD hS hl)
theorem pf7_1 {E : En} {X : Cx} {Q : State → Prop} {S : Mem} {cc : ByteArray} {own : String} {nL d pc : Nat} {ret : Option FieldType} {lv : List (Nat × Value)} {st : List Value} (hF : Fx E X cc own nL ret d) {k idx : Nat} {fs : List Value} {x : Int32} (hk : k < 70) (hs : sh E k (S k) = .inr (7, fs)) (hs2 : sh E k (upd (S k).1 1 x, (S k).2) = .inr (7, fs.set 1 (.int x))) (hlen : 1 < fs.length) (hw : Cond.fieldLink own idx "SelfScale$Text" "length" "I" ∈ BIG) (hd : decode cc pc = .ok (.putfield idx, 3)) (kk : J E X Q (wr S k 1 x) (pc + 3) lv st) : J E X Q S pc lv (.int x :: .ref (eA E k) :: st) := by
  rcases X with ⟨p, l, e, R, s, m, args, below, meth, c, n0, A, cells, slots⟩
  obtain ⟨hx, hb, hml, hn0, hown, hts, hK, hStr, hLit, hr, hlocks, hl0, hd1, hd2, hd3, hd4⟩ := hF
  intro H locs ls hP hD hS hl
  have e9 : (world E S).set k (eA E k, .inr (7, fs.set 1 (.int x))) = world E (wr S k 1 x) := by
    rw [← hs2, ← wr_at S k 1 x]
    exact world_set E hk (fun a h => wr_ne S k 1 x h)
  refine va_put (C := RX7) (T := TX7) (N := 2) (ty := .int) hx hb hts inX7 tyX7 tyX7_ok nmX7 hown hK hP hD hS k ((world_get E S hk).trans (by rw [hs])) rfl 1 (by decide) (hts _ hw) (fun _ h => h) rfl (by decide +kernel) rfl rfl hlen hd (fun H1 locs1 hP hD hS => ?_)
  rw [e9] at hP hD
  exact kk H1 locs1 ls hP hD hS hl
theorem gf8_0 {E : En} {X : Cx} {Q : State → Prop} {S : Mem} {cc : ByteArray} {own : String} {nL d pc : Nat} {ret : Option FieldType} {lv : List (Nat × Value)} {st : List Value} (hF : Fx E X cc own nL ret d) {k idx : Nat} {fs : List Value} {v : Value} (hk : k < 70) (hs : sh E k (S k) = .inr (8, fs)) (hv : fs[0]? = some v) (hw : Cond.fieldLink own idx "SelfScale$Worlds" "scale" "LSelfScale$Scale;" ∈ BIG) (hd : decode cc pc = .ok (.getfield idx, 3)) (kk : J E X Q S (pc + 3) lv (v :: st)) : J E X Q S pc lv (.ref (eA E k) :: st) := by
  rcases X with ⟨p, l, e, R, s, m, args, below, meth, c, n0, A, cells, slots⟩
  obtain ⟨hx, hb, hml, hn0, hown, hts, hK, hStr, hLit, hr, hlocks, hl0, hd1, hd2, hd3, hd4⟩ := hF
  intro H locs ls hP hD hS hl
  exact va_get (C := RX8) (T := TX8) (N := 11) hx hb hts inX8 hown hK hP k ((world_get E S hk).trans (by rw [hs])) rfl 0 (by decide) (hts _ hw) (fun _ h => h) hv hd (kk H locs ls hP hD hS hl)
theorem gf8_1 {E : En} {X : Cx} {Q : State → Prop} {S : Mem} {cc : ByteArray} {own : String} {nL d pc : Nat} {ret : Option FieldType} {lv : List (Nat × Value)} {st : List Value} (hF : Fx E X cc own nL ret d) {k idx : Nat} {fs : List Value} {v : Value} (hk : k < 70) (hs : sh E k (S k) = .inr (8, fs)) (hv : fs[1]? = some v) (hw : Cond.fieldLink own idx "SelfScale$Worlds" "book" "LSelfScale$Book;" ∈ BIG) (hd : decode cc pc = .ok (.getfield idx, 3)) (kk : J E X Q S (pc + 3) lv (v :: st)) : J E X Q S pc lv (.ref (eA E k) :: st) := by
  rcases X with ⟨p, l, e, R, s, m, args, below, meth, c, n0, A, cells, slots⟩
  obtain ⟨hx, hb, hml, hn0, hown, hts, hK, hStr, hLit, hr, hlocks, hl0, hd1, hd2, hd3, hd4⟩ := hF
  intro H locs ls hP hD hS hl
  exact va_get (C := RX8) (T := TX8) (N := 11) hx hb hts inX8 hown hK hP k ((world_get E S hk).trans (by rw [hs])) rfl 1 (by decide) (hts _ hw) (fun _ h => h) hv hd (kk H locs ls hP hD hS hl)
theorem gf8_2 {E : En} {X : Cx} {Q : State → Prop} {S : Mem} {cc : ByteArray} {own : String} {nL d pc : Nat} {ret : Option FieldType} {lv : List (Nat × Value)} {st : List Value} (hF : Fx E X cc own nL ret d) {k idx : Nat} {fs : List Value} {v : Value} (hk : k < 70) (hs : sh E k (S k) = .inr (8, fs)) (hv : fs[2]? = some v) (hw : Cond.fieldLink own idx "SelfScale$Worlds" "codes" "LSelfScale$Row;" ∈ BIG) (hd : decode cc pc = .ok (.getfield idx, 3)) (kk : J E X Q S (pc + 3) lv (v :: st)) : J E X Q S pc lv (.ref (eA E k) :: st) := by
  rcases X with ⟨p, l, e, R, s, m, args, below, meth, c, n0, A, cells, slots⟩
  obtain ⟨hx, hb, hml, hn0, hown, hts, hK, hStr, hLit, hr, hlocks, hl0, hd1, hd2, hd3, hd4⟩ := hF
  intro H locs ls hP hD hS hl
  exact va_get (C := RX8) (T := TX8) (N := 11) hx hb hts inX8 hown hK hP k ((world_get E S hk).trans (by rw [hs])) rfl 2 (by decide) (hts _ hw) (fun _ h => h) hv hd (kk H locs ls hP hD hS hl)
theorem gf8_3 {E : En} {X : Cx} {Q : State → Prop} {S : Mem} {cc : ByteArray} {own : String} {nL d pc : Nat} {ret : Option FieldType} {lv : List (Nat × Value)} {st : List Value} (hF : Fx E X cc own nL ret d) {k idx : Nat} {fs : List Value} {v : Value} (hk : k < 70) (hs : sh E k (S k) = .inr (8, fs)) (hv : fs[3]? = some v) (hw : Cond.fieldLink own idx "SelfScale$Worlds" "leftBits" "LSelfScale$Row;" ∈ BIG) (hd : decode cc pc = .ok (.getfield idx, 3)) (kk : J E X Q S (pc + 3) lv (v :: st)) : J E X Q S pc lv (.ref (eA E k) :: st) := by
  rcases X with ⟨p, l, e, R, s, m, args, below, meth, c, n0, A, cells, slots⟩
  obtain ⟨hx, hb, hml, hn0, hown, hts, hK, hStr, hLit, hr, hlocks, hl0, hd1, hd2, hd3, hd4⟩ := hF
  intro H locs ls hP hD hS hl
  exact va_get (C := RX8) (T := TX8) (N := 11) hx hb hts inX8 hown hK hP k ((world_get E S hk).trans (by rw [hs])) rfl 3 (by decide) (hts _ hw) (fun _ h => h) hv hd (kk H locs ls hP hD hS hl)
theorem gf8_4 {E : En} {X : Cx} {Q : State → Prop} {S : Mem} {cc : ByteArray} {own : String} {nL d pc : Nat} {ret : Option FieldType} {lv : List (Nat × Value)} {st : List Value} (hF : Fx E X cc own nL ret d) {k idx : Nat} {fs : List Value} {v : Value} (hk : k < 70) (hs : sh E k (S k) = .inr (8, fs)) (hv : fs[4]? = some v) (hw : Cond.fieldLink own idx "SelfScale$Worlds" "leftByWeight" "LSelfScale$Row;" ∈ BIG) (hd : decode cc pc = .ok (.getfield idx, 3)) (kk : J E X Q S (pc + 3) lv (v :: st)) : J E X Q S pc lv (.ref (eA E k) :: st) := by
  rcases X with ⟨p, l, e, R, s, m, args, below, meth, c, n0, A, cells, slots⟩
  obtain ⟨hx, hb, hml, hn0, hown, hts, hK, hStr, hLit, hr, hlocks, hl0, hd1, hd2, hd3, hd4⟩ := hF
  intro H locs ls hP hD hS hl
  exact va_get (C := RX8) (T := TX8) (N := 11) hx hb hts inX8 hown hK hP k ((world_get E S hk).trans (by rw [hs])) rfl 4 (by decide) (hts _ hw) (fun _ h => h) hv hd (kk H locs ls hP hD hS hl)
theorem gf8_5 {E : En} {X : Cx} {Q : State → Prop} {S : Mem} {cc : ByteArray} {own : String} {nL d pc : Nat} {ret : Option FieldType} {lv : List (Nat × Value)} {st : List Value} (hF : Fx E X cc own nL ret d) {k idx : Nat} {fs : List Value} {v : Value} (hk : k < 70) (hs : sh E k (S k) = .inr (8, fs)) (hv : fs[5]? = some v) (hw : Cond.fieldLink own idx "SelfScale$Worlds" "leftByLaughs" "LSelfScale$Row;" ∈ BIG) (hd : decode cc pc = .ok (.getfield idx, 3)) (kk : J E X Q S (pc + 3) lv (v :: st)) : J E X Q S pc lv (.ref (eA E k) :: st) := by
  rcases X with ⟨p, l, e, R, s, m, args, below, meth, c, n0, A, cells, slots⟩
  obtain ⟨hx, hb, hml, hn0, hown, hts, hK, hStr, hLit, hr, hlocks, hl0, hd1, hd2, hd3, hd4⟩ := hF
  intro H locs ls hP hD hS hl
  exact va_get (C := RX8) (T := TX8) (N := 11) hx hb hts inX8 hown hK hP k ((world_get E S hk).trans (by rw [hs])) rfl 5 (by decide) (hts _ hw) (fun _ h => h) hv hd (kk H locs ls hP hD hS hl)
theorem gf8_6 {E : En} {X : Cx} {Q : State → Prop} {S : Mem} {cc : ByteArray} {own : String} {nL d pc : Nat} {ret : Option FieldType} {lv : List (Nat × Value)} {st : List Value} (hF : Fx E X cc own nL ret d) {k idx : Nat} {fs : List Value} {v : Value} (hk : k < 70) (hs : sh E k (S k) = .inr (8, fs)) (hv : fs[6]? = some v) (hw : Cond.fieldLink own idx "SelfScale$Worlds" "laughedByLaughs" "LSelfScale$Row;" ∈ BIG) (hd : decode cc pc = .ok (.getfield idx, 3)) (kk : J E X Q S (pc + 3) lv (v :: st)) : J E X Q S pc lv (.ref (eA E k) :: st) := by
  rcases X with ⟨p, l, e, R, s, m, args, below, meth, c, n0, A, cells, slots⟩
  obtain ⟨hx, hb, hml, hn0, hown, hts, hK, hStr, hLit, hr, hlocks, hl0, hd1, hd2, hd3, hd4⟩ := hF
  intro H locs ls hP hD hS hl
  exact va_get (C := RX8) (T := TX8) (N := 11) hx hb hts inX8 hown hK hP k ((world_get E S hk).trans (by rw [hs])) rfl 6 (by decide) (hts _ hw) (fun _ h => h) hv hd (kk H locs ls hP hD hS hl)
theorem gf8_7 {E : En} {X : Cx} {Q : State → Prop} {S : Mem} {cc : ByteArray} {own : String} {nL d pc : Nat} {ret : Option FieldType} {lv : List (Nat × Value)} {st : List Value} (hF : Fx E X cc own nL ret d) {k idx : Nat} {fs : List Value} {v : Value} (hk : k < 70) (hs : sh E k (S k) = .inr (8, fs)) (hv : fs[7]? = some v) (hw : Cond.fieldLink own idx "SelfScale$Worlds" "isKnown" "Z" ∈ BIG) (hd : decode cc pc = .ok (.getfield idx, 3)) (kk : J E X Q S (pc + 3) lv (v :: st)) : J E X Q S pc lv (.ref (eA E k) :: st) := by
  rcases X with ⟨p, l, e, R, s, m, args, below, meth, c, n0, A, cells, slots⟩
  obtain ⟨hx, hb, hml, hn0, hown, hts, hK, hStr, hLit, hr, hlocks, hl0, hd1, hd2, hd3, hd4⟩ := hF
  intro H locs ls hP hD hS hl
  exact va_get (C := RX8) (T := TX8) (N := 11) hx hb hts inX8 hown hK hP k ((world_get E S hk).trans (by rw [hs])) rfl 7 (by decide) (hts _ hw) (fun _ h => h) hv hd (kk H locs ls hP hD hS hl)
theorem pf8_7 {E : En} {X : Cx} {Q : State → Prop} {S : Mem} {cc : ByteArray} {own : String} {nL d pc : Nat} {ret : Option FieldType} {lv : List (Nat × Value)} {st : List Value} (hF : Fx E X cc own nL ret d) {k idx : Nat} {fs : List Value} {x : Int32} (hn : narrow .boolean (.int x) = .int x) (hf : fits .boolean (.int x) = true) (hk : k < 70) (hs : sh E k (S k) = .inr (8, fs)) (hs2 : sh E k (upd (S k).1 7 x, (S k).2) = .inr (8, fs.set 7 (.int x))) (hlen : 7 < fs.length) (hw : Cond.fieldLink own idx "SelfScale$Worlds" "isKnown" "Z" ∈ BIG) (hd : decode cc pc = .ok (.putfield idx, 3)) (kk : J E X Q (wr S k 7 x) (pc + 3) lv st) : J E X Q S pc lv (.int x :: .ref (eA E k) :: st) := by
  rcases X with ⟨p, l, e, R, s, m, args, below, meth, c, n0, A, cells, slots⟩
  obtain ⟨hx, hb, hml, hn0, hown, hts, hK, hStr, hLit, hr, hlocks, hl0, hd1, hd2, hd3, hd4⟩ := hF
  intro H locs ls hP hD hS hl
  have e9 : (world E S).set k (eA E k, .inr (8, fs.set 7 (.int x))) = world E (wr S k 7 x) := by
    rw [← hs2, ← wr_at S k 7 x]
    exact world_set E hk (fun a h => wr_ne S k 7 x h)
  refine va_put (C := RX8) (T := TX8) (N := 11) (ty := .boolean) hx hb hts inX8 tyX8 tyX8_ok nmX8 hown hK hP hD hS k ((world_get E S hk).trans (by rw [hs])) rfl 7 (by decide) (hts _ hw) (fun _ h => h) rfl (by decide +kernel) hn hf hlen hd (fun H1 locs1 hP hD hS => ?_)
  rw [e9] at hP hD
  exact kk H1 locs1 ls hP hD hS hl
theorem gf8_8 {E : En} {X : Cx} {Q : State → Prop} {S : Mem} {cc : ByteArray} {own : String} {nL d pc : Nat} {ret : Option FieldType} {lv : List (Nat × Value)} {st : List Value} (hF : Fx E X cc own nL ret d) {k idx : Nat} {fs : List Value} {v : Value} (hk : k < 70) (hs : sh E k (S k) = .inr (8, fs)) (hv : fs[8]? = some v) (hw : Cond.fieldLink own idx "SelfScale$Worlds" "left" "I" ∈ BIG) (hd : decode cc pc = .ok (.getfield idx, 3)) (kk : J E X Q S (pc + 3) lv (v :: st)) : J E X Q S pc lv (.ref (eA E k) :: st) := by
  rcases X with ⟨p, l, e, R, s, m, args, below, meth, c, n0, A, cells, slots⟩
  obtain ⟨hx, hb, hml, hn0, hown, hts, hK, hStr, hLit, hr, hlocks, hl0, hd1, hd2, hd3, hd4⟩ := hF
  intro H locs ls hP hD hS hl
  exact va_get (C := RX8) (T := TX8) (N := 11) hx hb hts inX8 hown hK hP k ((world_get E S hk).trans (by rw [hs])) rfl 8 (by decide) (hts _ hw) (fun _ h => h) hv hd (kk H locs ls hP hD hS hl)
theorem pf8_8 {E : En} {X : Cx} {Q : State → Prop} {S : Mem} {cc : ByteArray} {own : String} {nL d pc : Nat} {ret : Option FieldType} {lv : List (Nat × Value)} {st : List Value} (hF : Fx E X cc own nL ret d) {k idx : Nat} {fs : List Value} {x : Int32} (hk : k < 70) (hs : sh E k (S k) = .inr (8, fs)) (hs2 : sh E k (upd (S k).1 8 x, (S k).2) = .inr (8, fs.set 8 (.int x))) (hlen : 8 < fs.length) (hw : Cond.fieldLink own idx "SelfScale$Worlds" "left" "I" ∈ BIG) (hd : decode cc pc = .ok (.putfield idx, 3)) (kk : J E X Q (wr S k 8 x) (pc + 3) lv st) : J E X Q S pc lv (.int x :: .ref (eA E k) :: st) := by
  rcases X with ⟨p, l, e, R, s, m, args, below, meth, c, n0, A, cells, slots⟩
  obtain ⟨hx, hb, hml, hn0, hown, hts, hK, hStr, hLit, hr, hlocks, hl0, hd1, hd2, hd3, hd4⟩ := hF
  intro H locs ls hP hD hS hl
  have e9 : (world E S).set k (eA E k, .inr (8, fs.set 8 (.int x))) = world E (wr S k 8 x) := by
    rw [← hs2, ← wr_at S k 8 x]
    exact world_set E hk (fun a h => wr_ne S k 8 x h)
  refine va_put (C := RX8) (T := TX8) (N := 11) (ty := .int) hx hb hts inX8 tyX8 tyX8_ok nmX8 hown hK hP hD hS k ((world_get E S hk).trans (by rw [hs])) rfl 8 (by decide) (hts _ hw) (fun _ h => h) rfl (by decide +kernel) rfl rfl hlen hd (fun H1 locs1 hP hD hS => ?_)
  rw [e9] at hP hD
  exact kk H1 locs1 ls hP hD hS hl
theorem gf8_9 {E : En} {X : Cx} {Q : State → Prop} {S : Mem} {cc : ByteArray} {own : String} {nL d pc : Nat} {ret : Option FieldType} {lv : List (Nat × Value)} {st : List Value} (hF : Fx E X cc own nL ret d) {k idx : Nat} {fs : List Value} {v : Value} (hk : k < 70) (hs : sh E k (S k) = .inr (8, fs)) (hv : fs[9]? = some v) (hw : Cond.fieldLink own idx "SelfScale$Worlds" "fewestFalse" "I" ∈ BIG) (hd : decode cc pc = .ok (.getfield idx, 3)) (kk : J E X Q S (pc + 3) lv (v :: st)) : J E X Q S pc lv (.ref (eA E k) :: st) := by
  rcases X with ⟨p, l, e, R, s, m, args, below, meth, c, n0, A, cells, slots⟩
  obtain ⟨hx, hb, hml, hn0, hown, hts, hK, hStr, hLit, hr, hlocks, hl0, hd1, hd2, hd3, hd4⟩ := hF
  intro H locs ls hP hD hS hl
  exact va_get (C := RX8) (T := TX8) (N := 11) hx hb hts inX8 hown hK hP k ((world_get E S hk).trans (by rw [hs])) rfl 9 (by decide) (hts _ hw) (fun _ h => h) hv hd (kk H locs ls hP hD hS hl)
theorem pf8_9 {E : En} {X : Cx} {Q : State → Prop} {S : Mem} {cc : ByteArray} {own : String} {nL d pc : Nat} {ret : Option FieldType} {lv : List (Nat × Value)} {st : List Value} (hF : Fx E X cc own nL ret d) {k idx : Nat} {fs : List Value} {x : Int32} (hk : k < 70) (hs : sh E k (S k) = .inr (8, fs)) (hs2 : sh E k (upd (S k).1 9 x, (S k).2) = .inr (8, fs.set 9 (.int x))) (hlen : 9 < fs.length) (hw : Cond.fieldLink own idx "SelfScale$Worlds" "fewestFalse" "I" ∈ BIG) (hd : decode cc pc = .ok (.putfield idx, 3)) (kk : J E X Q (wr S k 9 x) (pc + 3) lv st) : J E X Q S pc lv (.int x :: .ref (eA E k) :: st) := by
  rcases X with ⟨p, l, e, R, s, m, args, below, meth, c, n0, A, cells, slots⟩
  obtain ⟨hx, hb, hml, hn0, hown, hts, hK, hStr, hLit, hr, hlocks, hl0, hd1, hd2, hd3, hd4⟩ := hF
  intro H locs ls hP hD hS hl
  have e9 : (world E S).set k (eA E k, .inr (8, fs.set 9 (.int x))) = world E (wr S k 9 x) := by
    rw [← hs2, ← wr_at S k 9 x]
    exact world_set E hk (fun a h => wr_ne S k 9 x h)
  refine va_put (C := RX8) (T := TX8) (N := 11) (ty := .int) hx hb hts inX8 tyX8 tyX8_ok nmX8 hown hK hP hD hS k ((world_get E S hk).trans (by rw [hs])) rfl 9 (by decide) (hts _ hw) (fun _ h => h) rfl (by decide +kernel) rfl rfl hlen hd (fun H1 locs1 hP hD hS => ?_)
  rw [e9] at hP hD
  exact kk H1 locs1 ls hP hD hS hl
theorem gf8_10 {E : En} {X : Cx} {Q : State → Prop} {S : Mem} {cc : ByteArray} {own : String} {nL d pc : Nat} {ret : Option FieldType} {lv : List (Nat × Value)} {st : List Value} (hF : Fx E X cc own nL ret d) {k idx : Nat} {fs : List Value} {v : Value} (hk : k < 70) (hs : sh E k (S k) = .inr (8, fs)) (hv : fs[10]? = some v) (hw : Cond.fieldLink own idx "SelfScale$Worlds" "everFalse" "I" ∈ BIG) (hd : decode cc pc = .ok (.getfield idx, 3)) (kk : J E X Q S (pc + 3) lv (v :: st)) : J E X Q S pc lv (.ref (eA E k) :: st) := by
  rcases X with ⟨p, l, e, R, s, m, args, below, meth, c, n0, A, cells, slots⟩
  obtain ⟨hx, hb, hml, hn0, hown, hts, hK, hStr, hLit, hr, hlocks, hl0, hd1, hd2, hd3, hd4⟩ := hF
  intro H locs ls hP hD hS hl
  exact va_get (C := RX8) (T := TX8) (N := 11) hx hb hts inX8 hown hK hP k ((world_get E S hk).trans (by rw [hs])) rfl 10 (by decide) (hts _ hw) (fun _ h => h) hv hd (kk H locs ls hP hD hS hl)
theorem pf8_10 {E : En} {X : Cx} {Q : State → Prop} {S : Mem} {cc : ByteArray} {own : String} {nL d pc : Nat} {ret : Option FieldType} {lv : List (Nat × Value)} {st : List Value} (hF : Fx E X cc own nL ret d) {k idx : Nat} {fs : List Value} {x : Int32} (hk : k < 70) (hs : sh E k (S k) = .inr (8, fs)) (hs2 : sh E k (upd (S k).1 10 x, (S k).2) = .inr (8, fs.set 10 (.int x))) (hlen : 10 < fs.length) (hw : Cond.fieldLink own idx "SelfScale$Worlds" "everFalse" "I" ∈ BIG) (hd : decode cc pc = .ok (.putfield idx, 3)) (kk : J E X Q (wr S k 10 x) (pc + 3) lv st) : J E X Q S pc lv (.int x :: .ref (eA E k) :: st) := by
  rcases X with ⟨p, l, e, R, s, m, args, below, meth, c, n0, A, cells, slots⟩
  obtain ⟨hx, hb, hml, hn0, hown, hts, hK, hStr, hLit, hr, hlocks, hl0, hd1, hd2, hd3, hd4⟩ := hF
  intro H locs ls hP hD hS hl
  have e9 : (world E S).set k (eA E k, .inr (8, fs.set 10 (.int x))) = world E (wr S k 10 x) := by
    rw [← hs2, ← wr_at S k 10 x]
    exact world_set E hk (fun a h => wr_ne S k 10 x h)
  refine va_put (C := RX8) (T := TX8) (N := 11) (ty := .int) hx hb hts inX8 tyX8 tyX8_ok nmX8 hown hK hP hD hS k ((world_get E S hk).trans (by rw [hs])) rfl 10 (by decide) (hts _ hw) (fun _ h => h) rfl (by decide +kernel) rfl rfl hlen hd (fun H1 locs1 hP hD hS => ?_)
  rw [e9] at hP hD
  exact kk H1 locs1 ls hP hD hS hl
theorem gf9_0 {E : En} {X : Cx} {Q : State → Prop} {S : Mem} {cc : ByteArray} {own : String} {nL d pc : Nat} {ret : Option FieldType} {lv : List (Nat × Value)} {st : List Value} (hF : Fx E X cc own nL ret d) {k idx : Nat} {fs : List Value} {v : Value} (hk : k < 70) (hs : sh E k (S k) = .inr (9, fs)) (hv : fs[0]? = some v) (hw : Cond.fieldLink own idx "SelfScale" "text" "LSelfScale$Text;" ∈ BIG) (hd : decode cc pc = .ok (.getfield idx, 3)) (kk : J E X Q S (pc + 3) lv (v :: st)) : J E X Q S pc lv (.ref (eA E k) :: st) := by
  rcases X with ⟨p, l, e, R, s, m, args, below, meth, c, n0, A, cells, slots⟩
  obtain ⟨hx, hb, hml, hn0, hown, hts, hK, hStr, hLit, hr, hlocks, hl0, hd1, hd2, hd3, hd4⟩ := hF
  intro H locs ls hP hD hS hl
  exact va_get (C := RX9) (T := TX9) (N := 9) hx hb hts inX9 hown hK hP k ((world_get E S hk).trans (by rw [hs])) rfl 0 (by decide) (hts _ hw) (fun _ h => h) hv hd (kk H locs ls hP hD hS hl)
theorem gf9_1 {E : En} {X : Cx} {Q : State → Prop} {S : Mem} {cc : ByteArray} {own : String} {nL d pc : Nat} {ret : Option FieldType} {lv : List (Nat × Value)} {st : List Value} (hF : Fx E X cc own nL ret d) {k idx : Nat} {fs : List Value} {v : Value} (hk : k < 70) (hs : sh E k (S k) = .inr (9, fs)) (hv : fs[1]? = some v) (hw : Cond.fieldLink own idx "SelfScale" "reader" "LSelfScale$Reader;" ∈ BIG) (hd : decode cc pc = .ok (.getfield idx, 3)) (kk : J E X Q S (pc + 3) lv (v :: st)) : J E X Q S pc lv (.ref (eA E k) :: st) := by
  rcases X with ⟨p, l, e, R, s, m, args, below, meth, c, n0, A, cells, slots⟩
  obtain ⟨hx, hb, hml, hn0, hown, hts, hK, hStr, hLit, hr, hlocks, hl0, hd1, hd2, hd3, hd4⟩ := hF
  intro H locs ls hP hD hS hl
  exact va_get (C := RX9) (T := TX9) (N := 9) hx hb hts inX9 hown hK hP k ((world_get E S hk).trans (by rw [hs])) rfl 1 (by decide) (hts _ hw) (fun _ h => h) hv hd (kk H locs ls hP hD hS hl)
theorem gf9_2 {E : En} {X : Cx} {Q : State → Prop} {S : Mem} {cc : ByteArray} {own : String} {nL d pc : Nat} {ret : Option FieldType} {lv : List (Nat × Value)} {st : List Value} (hF : Fx E X cc own nL ret d) {k idx : Nat} {fs : List Value} {v : Value} (hk : k < 70) (hs : sh E k (S k) = .inr (9, fs)) (hv : fs[2]? = some v) (hw : Cond.fieldLink own idx "SelfScale" "scale" "LSelfScale$Scale;" ∈ BIG) (hd : decode cc pc = .ok (.getfield idx, 3)) (kk : J E X Q S (pc + 3) lv (v :: st)) : J E X Q S pc lv (.ref (eA E k) :: st) := by
  rcases X with ⟨p, l, e, R, s, m, args, below, meth, c, n0, A, cells, slots⟩
  obtain ⟨hx, hb, hml, hn0, hown, hts, hK, hStr, hLit, hr, hlocks, hl0, hd1, hd2, hd3, hd4⟩ := hF
  intro H locs ls hP hD hS hl
  exact va_get (C := RX9) (T := TX9) (N := 9) hx hb hts inX9 hown hK hP k ((world_get E S hk).trans (by rw [hs])) rfl 2 (by decide) (hts _ hw) (fun _ h => h) hv hd (kk H locs ls hP hD hS hl)
theorem gf9_3 {E : En} {X : Cx} {Q : State → Prop} {S : Mem} {cc : ByteArray} {own : String} {nL d pc : Nat} {ret : Option FieldType} {lv : List (Nat × Value)} {st : List Value} (hF : Fx E X cc own nL ret d) {k idx : Nat} {fs : List Value} {v : Value} (hk : k < 70) (hs : sh E k (S k) = .inr (9, fs)) (hv : fs[3]? = some v) (hw : Cond.fieldLink own idx "SelfScale" "book" "LSelfScale$Book;" ∈ BIG) (hd : decode cc pc = .ok (.getfield idx, 3)) (kk : J E X Q S (pc + 3) lv (v :: st)) : J E X Q S pc lv (.ref (eA E k) :: st) := by
  rcases X with ⟨p, l, e, R, s, m, args, below, meth, c, n0, A, cells, slots⟩
  obtain ⟨hx, hb, hml, hn0, hown, hts, hK, hStr, hLit, hr, hlocks, hl0, hd1, hd2, hd3, hd4⟩ := hF
  intro H locs ls hP hD hS hl
  exact va_get (C := RX9) (T := TX9) (N := 9) hx hb hts inX9 hown hK hP k ((world_get E S hk).trans (by rw [hs])) rfl 3 (by decide) (hts _ hw) (fun _ h => h) hv hd (kk H locs ls hP hD hS hl)
theorem gf9_4 {E : En} {X : Cx} {Q : State → Prop} {S : Mem} {cc : ByteArray} {own : String} {nL d pc : Nat} {ret : Option FieldType} {lv : List (Nat × Value)} {st : List Value} (hF : Fx E X cc own nL ret d) {k idx : Nat} {fs : List Value} {v : Value} (hk : k < 70) (hs : sh E k (S k) = .inr (9, fs)) (hv : fs[4]? = some v) (hw : Cond.fieldLink own idx "SelfScale" "firstImage" "LSelfScale$Image;" ∈ BIG) (hd : decode cc pc = .ok (.getfield idx, 3)) (kk : J E X Q S (pc + 3) lv (v :: st)) : J E X Q S pc lv (.ref (eA E k) :: st) := by
  rcases X with ⟨p, l, e, R, s, m, args, below, meth, c, n0, A, cells, slots⟩
  obtain ⟨hx, hb, hml, hn0, hown, hts, hK, hStr, hLit, hr, hlocks, hl0, hd1, hd2, hd3, hd4⟩ := hF
  intro H locs ls hP hD hS hl
  exact va_get (C := RX9) (T := TX9) (N := 9) hx hb hts inX9 hown hK hP k ((world_get E S hk).trans (by rw [hs])) rfl 4 (by decide) (hts _ hw) (fun _ h => h) hv hd (kk H locs ls hP hD hS hl)
theorem gf9_5 {E : En} {X : Cx} {Q : State → Prop} {S : Mem} {cc : ByteArray} {own : String} {nL d pc : Nat} {ret : Option FieldType} {lv : List (Nat × Value)} {st : List Value} (hF : Fx E X cc own nL ret d) {k idx : Nat} {fs : List Value} {v : Value} (hk : k < 70) (hs : sh E k (S k) = .inr (9, fs)) (hv : fs[5]? = some v) (hw : Cond.fieldLink own idx "SelfScale" "secondImage" "LSelfScale$Image;" ∈ BIG) (hd : decode cc pc = .ok (.getfield idx, 3)) (kk : J E X Q S (pc + 3) lv (v :: st)) : J E X Q S pc lv (.ref (eA E k) :: st) := by
  rcases X with ⟨p, l, e, R, s, m, args, below, meth, c, n0, A, cells, slots⟩
  obtain ⟨hx, hb, hml, hn0, hown, hts, hK, hStr, hLit, hr, hlocks, hl0, hd1, hd2, hd3, hd4⟩ := hF
  intro H locs ls hP hD hS hl
  exact va_get (C := RX9) (T := TX9) (N := 9) hx hb hts inX9 hown hK hP k ((world_get E S hk).trans (by rw [hs])) rfl 5 (by decide) (hts _ hw) (fun _ h => h) hv hd (kk H locs ls hP hD hS hl)
theorem gf9_6 {E : En} {X : Cx} {Q : State → Prop} {S : Mem} {cc : ByteArray} {own : String} {nL d pc : Nat} {ret : Option FieldType} {lv : List (Nat × Value)} {st : List Value} (hF : Fx E X cc own nL ret d) {k idx : Nat} {fs : List Value} {v : Value} (hk : k < 70) (hs : sh E k (S k) = .inr (9, fs)) (hv : fs[6]? = some v) (hw : Cond.fieldLink own idx "SelfScale" "kinds" "LSelfScale$Kinds;" ∈ BIG) (hd : decode cc pc = .ok (.getfield idx, 3)) (kk : J E X Q S (pc + 3) lv (v :: st)) : J E X Q S pc lv (.ref (eA E k) :: st) := by
  rcases X with ⟨p, l, e, R, s, m, args, below, meth, c, n0, A, cells, slots⟩
  obtain ⟨hx, hb, hml, hn0, hown, hts, hK, hStr, hLit, hr, hlocks, hl0, hd1, hd2, hd3, hd4⟩ := hF
  intro H locs ls hP hD hS hl
  exact va_get (C := RX9) (T := TX9) (N := 9) hx hb hts inX9 hown hK hP k ((world_get E S hk).trans (by rw [hs])) rfl 6 (by decide) (hts _ hw) (fun _ h => h) hv hd (kk H locs ls hP hD hS hl)
theorem gf9_7 {E : En} {X : Cx} {Q : State → Prop} {S : Mem} {cc : ByteArray} {own : String} {nL d pc : Nat} {ret : Option FieldType} {lv : List (Nat × Value)} {st : List Value} (hF : Fx E X cc own nL ret d) {k idx : Nat} {fs : List Value} {v : Value} (hk : k < 70) (hs : sh E k (S k) = .inr (9, fs)) (hv : fs[7]? = some v) (hw : Cond.fieldLink own idx "SelfScale" "worlds" "LSelfScale$Worlds;" ∈ BIG) (hd : decode cc pc = .ok (.getfield idx, 3)) (kk : J E X Q S (pc + 3) lv (v :: st)) : J E X Q S pc lv (.ref (eA E k) :: st) := by
  rcases X with ⟨p, l, e, R, s, m, args, below, meth, c, n0, A, cells, slots⟩
  obtain ⟨hx, hb, hml, hn0, hown, hts, hK, hStr, hLit, hr, hlocks, hl0, hd1, hd2, hd3, hd4⟩ := hF
  intro H locs ls hP hD hS hl
  exact va_get (C := RX9) (T := TX9) (N := 9) hx hb hts inX9 hown hK hP k ((world_get E S hk).trans (by rw [hs])) rfl 7 (by decide) (hts _ hw) (fun _ h => h) hv hd (kk H locs ls hP hD hS hl)
theorem gf9_8 {E : En} {X : Cx} {Q : State → Prop} {S : Mem} {cc : ByteArray} {own : String} {nL d pc : Nat} {ret : Option FieldType} {lv : List (Nat × Value)} {st : List Value} (hF : Fx E X cc own nL ret d) {k idx : Nat} {fs : List Value} {v : Value} (hk : k < 70) (hs : sh E k (S k) = .inr (9, fs)) (hv : fs[8]? = some v) (hw : Cond.fieldLink own idx "SelfScale" "plan" "LSelfScale$Plan;" ∈ BIG) (hd : decode cc pc = .ok (.getfield idx, 3)) (kk : J E X Q S (pc + 3) lv (v :: st)) : J E X Q S pc lv (.ref (eA E k) :: st) := by
  rcases X with ⟨p, l, e, R, s, m, args, below, meth, c, n0, A, cells, slots⟩
  obtain ⟨hx, hb, hml, hn0, hown, hts, hK, hStr, hLit, hr, hlocks, hl0, hd1, hd2, hd3, hd4⟩ := hF
  intro H locs ls hP hD hS hl
  exact va_get (C := RX9) (T := TX9) (N := 9) hx hb hts inX9 hown hK hP k ((world_get E S hk).trans (by rw [hs])) rfl 8 (by decide) (hts _ hw) (fun _ h => h) hv hd (kk H locs ls hP hD hS hl)
theorem gf10_0 {E : En} {X : Cx} {Q : State → Prop} {S : Mem} {cc : ByteArray} {own : String} {nL d pc : Nat} {ret : Option FieldType} {lv : List (Nat × Value)} {st : List Value} (hF : Fx E X cc own nL ret d) {k idx : Nat} {fs : List Value} {v : Value} (hk : k < 70) (hs : sh E k (S k) = .inr (10, fs)) (hv : fs[0]? = some v) (hw : Cond.fieldLink own idx "SelfScaleModel" "trace" "J" ∈ BIG) (hd : decode cc pc = .ok (.getfield idx, 3)) (kk : J E X Q S (pc + 3) lv (v :: st)) : J E X Q S pc lv (.ref (eA E k) :: st) := by
  rcases X with ⟨p, l, e, R, s, m, args, below, meth, c, n0, A, cells, slots⟩
  obtain ⟨hx, hb, hml, hn0, hown, hts, hK, hStr, hLit, hr, hlocks, hl0, hd1, hd2, hd3, hd4⟩ := hF
  intro H locs ls hP hD hS hl
  exact va_get (C := RX10) (T := TX10) (N := 20) hx hb hts inX10 hown hK hP k ((world_get E S hk).trans (by rw [hs])) rfl 0 (by decide) (hts _ hw) (fun _ h => h) hv hd (kk H locs ls hP hD hS hl)
theorem pf10_0 {E : En} {X : Cx} {Q : State → Prop} {S : Mem} {cc : ByteArray} {own : String} {nL d pc : Nat} {ret : Option FieldType} {lv : List (Nat × Value)} {st : List Value} (hF : Fx E X cc own nL ret d) {k idx : Nat} {fs : List Value} {x : Int64} (hk : k < 70) (hs : sh E k (S k) = .inr (10, fs)) (hs2 : sh E k ((S k).1, x) = .inr (10, fs.set 0 (.long x))) (hlen : 0 < fs.length) (hw : Cond.fieldLink own idx "SelfScaleModel" "trace" "J" ∈ BIG) (hd : decode cc pc = .ok (.putfield idx, 3)) (kk : J E X Q (wrL S k x) (pc + 3) lv st) : J E X Q S pc lv (.long x :: .ref (eA E k) :: st) := by
  rcases X with ⟨p, l, e, R, s, m, args, below, meth, c, n0, A, cells, slots⟩
  obtain ⟨hx, hb, hml, hn0, hown, hts, hK, hStr, hLit, hr, hlocks, hl0, hd1, hd2, hd3, hd4⟩ := hF
  intro H locs ls hP hD hS hl
  have e9 : (world E S).set k (eA E k, .inr (10, fs.set 0 (.long x))) = world E (wrL S k x) := by
    rw [← hs2, ← wrL_at S k x]
    exact world_set E hk (fun a h => wrL_ne S k x h)
  refine va_put (C := RX10) (T := TX10) (N := 20) (ty := .long) hx hb hts inX10 tyX10 tyX10_ok nmX10 hown hK hP hD hS k ((world_get E S hk).trans (by rw [hs])) rfl 0 (by decide) (hts _ hw) (fun _ h => h) rfl (by decide +kernel) rfl rfl hlen hd (fun H1 locs1 hP hD hS => ?_)
  rw [e9] at hP hD
  exact kk H1 locs1 ls hP hD hS hl
theorem gf10_1 {E : En} {X : Cx} {Q : State → Prop} {S : Mem} {cc : ByteArray} {own : String} {nL d pc : Nat} {ret : Option FieldType} {lv : List (Nat × Value)} {st : List Value} (hF : Fx E X cc own nL ret d) {k idx : Nat} {fs : List Value} {v : Value} (hk : k < 70) (hs : sh E k (S k) = .inr (10, fs)) (hv : fs[1]? = some v) (hw : Cond.fieldLink own idx "SelfScaleModel" "text" "[B" ∈ BIG) (hd : decode cc pc = .ok (.getfield idx, 3)) (kk : J E X Q S (pc + 3) lv (v :: st)) : J E X Q S pc lv (.ref (eA E k) :: st) := by
  rcases X with ⟨p, l, e, R, s, m, args, below, meth, c, n0, A, cells, slots⟩
  obtain ⟨hx, hb, hml, hn0, hown, hts, hK, hStr, hLit, hr, hlocks, hl0, hd1, hd2, hd3, hd4⟩ := hF
  intro H locs ls hP hD hS hl
  exact va_get (C := RX10) (T := TX10) (N := 20) hx hb hts inX10 hown hK hP k ((world_get E S hk).trans (by rw [hs])) rfl 1 (by decide) (hts _ hw) (fun _ h => h) hv hd (kk H locs ls hP hD hS hl)
theorem gf10_2 {E : En} {X : Cx} {Q : State → Prop} {S : Mem} {cc : ByteArray} {own : String} {nL d pc : Nat} {ret : Option FieldType} {lv : List (Nat × Value)} {st : List Value} (hF : Fx E X cc own nL ret d) {k idx : Nat} {fs : List Value} {v : Value} (hk : k < 70) (hs : sh E k (S k) = .inr (10, fs)) (hv : fs[2]? = some v) (hw : Cond.fieldLink own idx "SelfScaleModel" "typed" "I" ∈ BIG) (hd : decode cc pc = .ok (.getfield idx, 3)) (kk : J E X Q S (pc + 3) lv (v :: st)) : J E X Q S pc lv (.ref (eA E k) :: st) := by
  rcases X with ⟨p, l, e, R, s, m, args, below, meth, c, n0, A, cells, slots⟩
  obtain ⟨hx, hb, hml, hn0, hown, hts, hK, hStr, hLit, hr, hlocks, hl0, hd1, hd2, hd3, hd4⟩ := hF
  intro H locs ls hP hD hS hl
  exact va_get (C := RX10) (T := TX10) (N := 20) hx hb hts inX10 hown hK hP k ((world_get E S hk).trans (by rw [hs])) rfl 2 (by decide) (hts _ hw) (fun _ h => h) hv hd (kk H locs ls hP hD hS hl)
theorem pf10_2 {E : En} {X : Cx} {Q : State → Prop} {S : Mem} {cc : ByteArray} {own : String} {nL d pc : Nat} {ret : Option FieldType} {lv : List (Nat × Value)} {st : List Value} (hF : Fx E X cc own nL ret d) {k idx : Nat} {fs : List Value} {x : Int32} (hk : k < 70) (hs : sh E k (S k) = .inr (10, fs)) (hs2 : sh E k (upd (S k).1 2 x, (S k).2) = .inr (10, fs.set 2 (.int x))) (hlen : 2 < fs.length) (hw : Cond.fieldLink own idx "SelfScaleModel" "typed" "I" ∈ BIG) (hd : decode cc pc = .ok (.putfield idx, 3)) (kk : J E X Q (wr S k 2 x) (pc + 3) lv st) : J E X Q S pc lv (.int x :: .ref (eA E k) :: st) := by
  rcases X with ⟨p, l, e, R, s, m, args, below, meth, c, n0, A, cells, slots⟩
  obtain ⟨hx, hb, hml, hn0, hown, hts, hK, hStr, hLit, hr, hlocks, hl0, hd1, hd2, hd3, hd4⟩ := hF
  intro H locs ls hP hD hS hl
  have e9 : (world E S).set k (eA E k, .inr (10, fs.set 2 (.int x))) = world E (wr S k 2 x) := by
    rw [← hs2, ← wr_at S k 2 x]
    exact world_set E hk (fun a h => wr_ne S k 2 x h)
  refine va_put (C := RX10) (T := TX10) (N := 20) (ty := .int) hx hb hts inX10 tyX10 tyX10_ok nmX10 hown hK hP hD hS k ((world_get E S hk).trans (by rw [hs])) rfl 2 (by decide) (hts _ hw) (fun _ h => h) rfl (by decide +kernel) rfl rfl hlen hd (fun H1 locs1 hP hD hS => ?_)
  rw [e9] at hP hD
  exact kk H1 locs1 ls hP hD hS hl
theorem gf10_3 {E : En} {X : Cx} {Q : State → Prop} {S : Mem} {cc : ByteArray} {own : String} {nL d pc : Nat} {ret : Option FieldType} {lv : List (Nat × Value)} {st : List Value} (hF : Fx E X cc own nL ret d) {k idx : Nat} {fs : List Value} {v : Value} (hk : k < 70) (hs : sh E k (S k) = .inr (10, fs)) (hv : fs[3]? = some v) (hw : Cond.fieldLink own idx "SelfScaleModel" "things" "[I" ∈ BIG) (hd : decode cc pc = .ok (.getfield idx, 3)) (kk : J E X Q S (pc + 3) lv (v :: st)) : J E X Q S pc lv (.ref (eA E k) :: st) := by
  rcases X with ⟨p, l, e, R, s, m, args, below, meth, c, n0, A, cells, slots⟩
  obtain ⟨hx, hb, hml, hn0, hown, hts, hK, hStr, hLit, hr, hlocks, hl0, hd1, hd2, hd3, hd4⟩ := hF
  intro H locs ls hP hD hS hl
  exact va_get (C := RX10) (T := TX10) (N := 20) hx hb hts inX10 hown hK hP k ((world_get E S hk).trans (by rw [hs])) rfl 3 (by decide) (hts _ hw) (fun _ h => h) hv hd (kk H locs ls hP hD hS hl)
theorem gf10_4 {E : En} {X : Cx} {Q : State → Prop} {S : Mem} {cc : ByteArray} {own : String} {nL d pc : Nat} {ret : Option FieldType} {lv : List (Nat × Value)} {st : List Value} (hF : Fx E X cc own nL ret d) {k idx : Nat} {fs : List Value} {v : Value} (hk : k < 70) (hs : sh E k (S k) = .inr (10, fs)) (hv : fs[4]? = some v) (hw : Cond.fieldLink own idx "SelfScaleModel" "weights" "[I" ∈ BIG) (hd : decode cc pc = .ok (.getfield idx, 3)) (kk : J E X Q S (pc + 3) lv (v :: st)) : J E X Q S pc lv (.ref (eA E k) :: st) := by
  rcases X with ⟨p, l, e, R, s, m, args, below, meth, c, n0, A, cells, slots⟩
  obtain ⟨hx, hb, hml, hn0, hown, hts, hK, hStr, hLit, hr, hlocks, hl0, hd1, hd2, hd3, hd4⟩ := hF
  intro H locs ls hP hD hS hl
  exact va_get (C := RX10) (T := TX10) (N := 20) hx hb hts inX10 hown hK hP k ((world_get E S hk).trans (by rw [hs])) rfl 4 (by decide) (hts _ hw) (fun _ h => h) hv hd (kk H locs ls hP hD hS hl)
theorem gf10_5 {E : En} {X : Cx} {Q : State → Prop} {S : Mem} {cc : ByteArray} {own : String} {nL d pc : Nat} {ret : Option FieldType} {lv : List (Nat × Value)} {st : List Value} (hF : Fx E X cc own nL ret d) {k idx : Nat} {fs : List Value} {v : Value} (hk : k < 70) (hs : sh E k (S k) = .inr (10, fs)) (hv : fs[5]? = some v) (hw : Cond.fieldLink own idx "SelfScaleModel" "figures" "[I" ∈ BIG) (hd : decode cc pc = .ok (.getfield idx, 3)) (kk : J E X Q S (pc + 3) lv (v :: st)) : J E X Q S pc lv (.ref (eA E k) :: st) := by
  rcases X with ⟨p, l, e, R, s, m, args, below, meth, c, n0, A, cells, slots⟩
  obtain ⟨hx, hb, hml, hn0, hown, hts, hK, hStr, hLit, hr, hlocks, hl0, hd1, hd2, hd3, hd4⟩ := hF
  intro H locs ls hP hD hS hl
  exact va_get (C := RX10) (T := TX10) (N := 20) hx hb hts inX10 hown hK hP k ((world_get E S hk).trans (by rw [hs])) rfl 5 (by decide) (hts _ hw) (fun _ h => h) hv hd (kk H locs ls hP hD hS hl)
theorem gf10_6 {E : En} {X : Cx} {Q : State → Prop} {S : Mem} {cc : ByteArray} {own : String} {nL d pc : Nat} {ret : Option FieldType} {lv : List (Nat × Value)} {st : List Value} (hF : Fx E X cc own nL ret d) {k idx : Nat} {fs : List Value} {v : Value} (hk : k < 70) (hs : sh E k (S k) = .inr (10, fs)) (hv : fs[6]? = some v) (hw : Cond.fieldLink own idx "SelfScaleModel" "at" "I" ∈ BIG) (hd : decode cc pc = .ok (.getfield idx, 3)) (kk : J E X Q S (pc + 3) lv (v :: st)) : J E X Q S pc lv (.ref (eA E k) :: st) := by
  rcases X with ⟨p, l, e, R, s, m, args, below, meth, c, n0, A, cells, slots⟩
  obtain ⟨hx, hb, hml, hn0, hown, hts, hK, hStr, hLit, hr, hlocks, hl0, hd1, hd2, hd3, hd4⟩ := hF
  intro H locs ls hP hD hS hl
  exact va_get (C := RX10) (T := TX10) (N := 20) hx hb hts inX10 hown hK hP k ((world_get E S hk).trans (by rw [hs])) rfl 6 (by decide) (hts _ hw) (fun _ h => h) hv hd (kk H locs ls hP hD hS hl)
theorem pf10_6 {E : En} {X : Cx} {Q : State → Prop} {S : Mem} {cc : ByteArray} {own : String} {nL d pc : Nat} {ret : Option FieldType} {lv : List (Nat × Value)} {st : List Value} (hF : Fx E X cc own nL ret d) {k idx : Nat} {fs : List Value} {x : Int32} (hk : k < 70) (hs : sh E k (S k) = .inr (10, fs)) (hs2 : sh E k (upd (S k).1 6 x, (S k).2) = .inr (10, fs.set 6 (.int x))) (hlen : 6 < fs.length) (hw : Cond.fieldLink own idx "SelfScaleModel" "at" "I" ∈ BIG) (hd : decode cc pc = .ok (.putfield idx, 3)) (kk : J E X Q (wr S k 6 x) (pc + 3) lv st) : J E X Q S pc lv (.int x :: .ref (eA E k) :: st) := by
  rcases X with ⟨p, l, e, R, s, m, args, below, meth, c, n0, A, cells, slots⟩
  obtain ⟨hx, hb, hml, hn0, hown, hts, hK, hStr, hLit, hr, hlocks, hl0, hd1, hd2, hd3, hd4⟩ := hF
  intro H locs ls hP hD hS hl
  have e9 : (world E S).set k (eA E k, .inr (10, fs.set 6 (.int x))) = world E (wr S k 6 x) := by
    rw [← hs2, ← wr_at S k 6 x]
    exact world_set E hk (fun a h => wr_ne S k 6 x h)
  refine va_put (C := RX10) (T := TX10) (N := 20) (ty := .int) hx hb hts inX10 tyX10 tyX10_ok nmX10 hown hK hP hD hS k ((world_get E S hk).trans (by rw [hs])) rfl 6 (by decide) (hts _ hw) (fun _ h => h) rfl (by decide +kernel) rfl rfl hlen hd (fun H1 locs1 hP hD hS => ?_)
  rw [e9] at hP hD
  exact kk H1 locs1 ls hP hD hS hl
theorem gf10_7 {E : En} {X : Cx} {Q : State → Prop} {S : Mem} {cc : ByteArray} {own : String} {nL d pc : Nat} {ret : Option FieldType} {lv : List (Nat × Value)} {st : List Value} (hF : Fx E X cc own nL ret d) {k idx : Nat} {fs : List Value} {v : Value} (hk : k < 70) (hs : sh E k (S k) = .inr (10, fs)) (hv : fs[7]? = some v) (hw : Cond.fieldLink own idx "SelfScaleModel" "start" "I" ∈ BIG) (hd : decode cc pc = .ok (.getfield idx, 3)) (kk : J E X Q S (pc + 3) lv (v :: st)) : J E X Q S pc lv (.ref (eA E k) :: st) := by
  rcases X with ⟨p, l, e, R, s, m, args, below, meth, c, n0, A, cells, slots⟩
  obtain ⟨hx, hb, hml, hn0, hown, hts, hK, hStr, hLit, hr, hlocks, hl0, hd1, hd2, hd3, hd4⟩ := hF
  intro H locs ls hP hD hS hl
  exact va_get (C := RX10) (T := TX10) (N := 20) hx hb hts inX10 hown hK hP k ((world_get E S hk).trans (by rw [hs])) rfl 7 (by decide) (hts _ hw) (fun _ h => h) hv hd (kk H locs ls hP hD hS hl)
theorem pf10_7 {E : En} {X : Cx} {Q : State → Prop} {S : Mem} {cc : ByteArray} {own : String} {nL d pc : Nat} {ret : Option FieldType} {lv : List (Nat × Value)} {st : List Value} (hF : Fx E X cc own nL ret d) {k idx : Nat} {fs : List Value} {x : Int32} (hk : k < 70) (hs : sh E k (S k) = .inr (10, fs)) (hs2 : sh E k (upd (S k).1 7 x, (S k).2) = .inr (10, fs.set 7 (.int x))) (hlen : 7 < fs.length) (hw : Cond.fieldLink own idx "SelfScaleModel" "start" "I" ∈ BIG) (hd : decode cc pc = .ok (.putfield idx, 3)) (kk : J E X Q (wr S k 7 x) (pc + 3) lv st) : J E X Q S pc lv (.int x :: .ref (eA E k) :: st) := by
  rcases X with ⟨p, l, e, R, s, m, args, below, meth, c, n0, A, cells, slots⟩
  obtain ⟨hx, hb, hml, hn0, hown, hts, hK, hStr, hLit, hr, hlocks, hl0, hd1, hd2, hd3, hd4⟩ := hF
  intro H locs ls hP hD hS hl
  have e9 : (world E S).set k (eA E k, .inr (10, fs.set 7 (.int x))) = world E (wr S k 7 x) := by
    rw [← hs2, ← wr_at S k 7 x]
    exact world_set E hk (fun a h => wr_ne S k 7 x h)
  refine va_put (C := RX10) (T := TX10) (N := 20) (ty := .int) hx hb hts inX10 tyX10 tyX10_ok nmX10 hown hK hP hD hS k ((world_get E S hk).trans (by rw [hs])) rfl 7 (by decide) (hts _ hw) (fun _ h => h) rfl (by decide +kernel) rfl rfl hlen hd (fun H1 locs1 hP hD hS => ?_)
  rw [e9] at hP hD
  exact kk H1 locs1 ls hP hD hS hl
theorem gf10_8 {E : En} {X : Cx} {Q : State → Prop} {S : Mem} {cc : ByteArray} {own : String} {nL d pc : Nat} {ret : Option FieldType} {lv : List (Nat × Value)} {st : List Value} (hF : Fx E X cc own nL ret d) {k idx : Nat} {fs : List Value} {v : Value} (hk : k < 70) (hs : sh E k (S k) = .inr (10, fs)) (hv : fs[8]? = some v) (hw : Cond.fieldLink own idx "SelfScaleModel" "sort" "I" ∈ BIG) (hd : decode cc pc = .ok (.getfield idx, 3)) (kk : J E X Q S (pc + 3) lv (v :: st)) : J E X Q S pc lv (.ref (eA E k) :: st) := by
  rcases X with ⟨p, l, e, R, s, m, args, below, meth, c, n0, A, cells, slots⟩
  obtain ⟨hx, hb, hml, hn0, hown, hts, hK, hStr, hLit, hr, hlocks, hl0, hd1, hd2, hd3, hd4⟩ := hF
  intro H locs ls hP hD hS hl
  exact va_get (C := RX10) (T := TX10) (N := 20) hx hb hts inX10 hown hK hP k ((world_get E S hk).trans (by rw [hs])) rfl 8 (by decide) (hts _ hw) (fun _ h => h) hv hd (kk H locs ls hP hD hS hl)
theorem pf10_8 {E : En} {X : Cx} {Q : State → Prop} {S : Mem} {cc : ByteArray} {own : String} {nL d pc : Nat} {ret : Option FieldType} {lv : List (Nat × Value)} {st : List Value} (hF : Fx E X cc own nL ret d) {k idx : Nat} {fs : List Value} {x : Int32} (hk : k < 70) (hs : sh E k (S k) = .inr (10, fs)) (hs2 : sh E k (upd (S k).1 8 x, (S k).2) = .inr (10, fs.set 8 (.int x))) (hlen : 8 < fs.length) (hw : Cond.fieldLink own idx "SelfScaleModel" "sort" "I" ∈ BIG) (hd : decode cc pc = .ok (.putfield idx, 3)) (kk : J E X Q (wr S k 8 x) (pc + 3) lv st) : J E X Q S pc lv (.int x :: .ref (eA E k) :: st) := by
  rcases X with ⟨p, l, e, R, s, m, args, below, meth, c, n0, A, cells, slots⟩
  obtain ⟨hx, hb, hml, hn0, hown, hts, hK, hStr, hLit, hr, hlocks, hl0, hd1, hd2, hd3, hd4⟩ := hF
  intro H locs ls hP hD hS hl
  have e9 : (world E S).set k (eA E k, .inr (10, fs.set 8 (.int x))) = world E (wr S k 8 x) := by
    rw [← hs2, ← wr_at S k 8 x]
    exact world_set E hk (fun a h => wr_ne S k 8 x h)
  refine va_put (C := RX10) (T := TX10) (N := 20) (ty := .int) hx hb hts inX10 tyX10 tyX10_ok nmX10 hown hK hP hD hS k ((world_get E S hk).trans (by rw [hs])) rfl 8 (by decide) (hts _ hw) (fun _ h => h) rfl (by decide +kernel) rfl rfl hlen hd (fun H1 locs1 hP hD hS => ?_)
  rw [e9] at hP hD
  exact kk H1 locs1 ls hP hD hS hl
theorem gf10_9 {E : En} {X : Cx} {Q : State → Prop} {S : Mem} {cc : ByteArray} {own : String} {nL d pc : Nat} {ret : Option FieldType} {lv : List (Nat × Value)} {st : List Value} (hF : Fx E X cc own nL ret d) {k idx : Nat} {fs : List Value} {v : Value} (hk : k < 70) (hs : sh E k (S k) = .inr (10, fs)) (hv : fs[9]? = some v) (hw : Cond.fieldLink own idx "SelfScaleModel" "value" "I" ∈ BIG) (hd : decode cc pc = .ok (.getfield idx, 3)) (kk : J E X Q S (pc + 3) lv (v :: st)) : J E X Q S pc lv (.ref (eA E k) :: st) := by
  rcases X with ⟨p, l, e, R, s, m, args, below, meth, c, n0, A, cells, slots⟩
  obtain ⟨hx, hb, hml, hn0, hown, hts, hK, hStr, hLit, hr, hlocks, hl0, hd1, hd2, hd3, hd4⟩ := hF
  intro H locs ls hP hD hS hl
  exact va_get (C := RX10) (T := TX10) (N := 20) hx hb hts inX10 hown hK hP k ((world_get E S hk).trans (by rw [hs])) rfl 9 (by decide) (hts _ hw) (fun _ h => h) hv hd (kk H locs ls hP hD hS hl)
theorem pf10_9 {E : En} {X : Cx} {Q : State → Prop} {S : Mem} {cc : ByteArray} {own : String} {nL d pc : Nat} {ret : Option FieldType} {lv : List (Nat × Value)} {st : List Value} (hF : Fx E X cc own nL ret d) {k idx : Nat} {fs : List Value} {x : Int32} (hk : k < 70) (hs : sh E k (S k) = .inr (10, fs)) (hs2 : sh E k (upd (S k).1 9 x, (S k).2) = .inr (10, fs.set 9 (.int x))) (hlen : 9 < fs.length) (hw : Cond.fieldLink own idx "SelfScaleModel" "value" "I" ∈ BIG) (hd : decode cc pc = .ok (.putfield idx, 3)) (kk : J E X Q (wr S k 9 x) (pc + 3) lv st) : J E X Q S pc lv (.int x :: .ref (eA E k) :: st) := by
  rcases X with ⟨p, l, e, R, s, m, args, below, meth, c, n0, A, cells, slots⟩
  obtain ⟨hx, hb, hml, hn0, hown, hts, hK, hStr, hLit, hr, hlocks, hl0, hd1, hd2, hd3, hd4⟩ := hF
  intro H locs ls hP hD hS hl
  have e9 : (world E S).set k (eA E k, .inr (10, fs.set 9 (.int x))) = world E (wr S k 9 x) := by
    rw [← hs2, ← wr_at S k 9 x]
    exact world_set E hk (fun a h => wr_ne S k 9 x h)
  refine va_put (C := RX10) (T := TX10) (N := 20) (ty := .int) hx hb hts inX10 tyX10 tyX10_ok nmX10 hown hK hP hD hS k ((world_get E S hk).trans (by rw [hs])) rfl 9 (by decide) (hts _ hw) (fun _ h => h) rfl (by decide +kernel) rfl rfl hlen hd (fun H1 locs1 hP hD hS => ?_)
  rw [e9] at hP hD
  exact kk H1 locs1 ls hP hD hS hl
theorem gf10_10 {E : En} {X : Cx} {Q : State → Prop} {S : Mem} {cc : ByteArray} {own : String} {nL d pc : Nat} {ret : Option FieldType} {lv : List (Nat × Value)} {st : List Value} (hF : Fx E X cc own nL ret d) {k idx : Nat} {fs : List Value} {v : Value} (hk : k < 70) (hs : sh E k (S k) = .inr (10, fs)) (hv : fs[10]? = some v) (hw : Cond.fieldLink own idx "SelfScaleModel" "fault" "I" ∈ BIG) (hd : decode cc pc = .ok (.getfield idx, 3)) (kk : J E X Q S (pc + 3) lv (v :: st)) : J E X Q S pc lv (.ref (eA E k) :: st) := by
  rcases X with ⟨p, l, e, R, s, m, args, below, meth, c, n0, A, cells, slots⟩
  obtain ⟨hx, hb, hml, hn0, hown, hts, hK, hStr, hLit, hr, hlocks, hl0, hd1, hd2, hd3, hd4⟩ := hF
  intro H locs ls hP hD hS hl
  exact va_get (C := RX10) (T := TX10) (N := 20) hx hb hts inX10 hown hK hP k ((world_get E S hk).trans (by rw [hs])) rfl 10 (by decide) (hts _ hw) (fun _ h => h) hv hd (kk H locs ls hP hD hS hl)
theorem pf10_10 {E : En} {X : Cx} {Q : State → Prop} {S : Mem} {cc : ByteArray} {own : String} {nL d pc : Nat} {ret : Option FieldType} {lv : List (Nat × Value)} {st : List Value} (hF : Fx E X cc own nL ret d) {k idx : Nat} {fs : List Value} {x : Int32} (hk : k < 70) (hs : sh E k (S k) = .inr (10, fs)) (hs2 : sh E k (upd (S k).1 10 x, (S k).2) = .inr (10, fs.set 10 (.int x))) (hlen : 10 < fs.length) (hw : Cond.fieldLink own idx "SelfScaleModel" "fault" "I" ∈ BIG) (hd : decode cc pc = .ok (.putfield idx, 3)) (kk : J E X Q (wr S k 10 x) (pc + 3) lv st) : J E X Q S pc lv (.int x :: .ref (eA E k) :: st) := by
  rcases X with ⟨p, l, e, R, s, m, args, below, meth, c, n0, A, cells, slots⟩
  obtain ⟨hx, hb, hml, hn0, hown, hts, hK, hStr, hLit, hr, hlocks, hl0, hd1, hd2, hd3, hd4⟩ := hF
  intro H locs ls hP hD hS hl
  have e9 : (world E S).set k (eA E k, .inr (10, fs.set 10 (.int x))) = world E (wr S k 10 x) := by
    rw [← hs2, ← wr_at S k 10 x]
    exact world_set E hk (fun a h => wr_ne S k 10 x h)
  refine va_put (C := RX10) (T := TX10) (N := 20) (ty := .int) hx hb hts inX10 tyX10 tyX10_ok nmX10 hown hK hP hD hS k ((world_get E S hk).trans (by rw [hs])) rfl 10 (by decide) (hts _ hw) (fun _ h => h) rfl (by decide +kernel) rfl rfl hlen hd (fun H1 locs1 hP hD hS => ?_)
  rw [e9] at hP hD
  exact kk H1 locs1 ls hP hD hS hl
theorem gf10_11 {E : En} {X : Cx} {Q : State → Prop} {S : Mem} {cc : ByteArray} {own : String} {nL d pc : Nat} {ret : Option FieldType} {lv : List (Nat × Value)} {st : List Value} (hF : Fx E X cc own nL ret d) {k idx : Nat} {fs : List Value} {v : Value} (hk : k < 70) (hs : sh E k (S k) = .inr (10, fs)) (hv : fs[11]? = some v) (hw : Cond.fieldLink own idx "SelfScaleModel" "told" "I" ∈ BIG) (hd : decode cc pc = .ok (.getfield idx, 3)) (kk : J E X Q S (pc + 3) lv (v :: st)) : J E X Q S pc lv (.ref (eA E k) :: st) := by
  rcases X with ⟨p, l, e, R, s, m, args, below, meth, c, n0, A, cells, slots⟩
  obtain ⟨hx, hb, hml, hn0, hown, hts, hK, hStr, hLit, hr, hlocks, hl0, hd1, hd2, hd3, hd4⟩ := hF
  intro H locs ls hP hD hS hl
  exact va_get (C := RX10) (T := TX10) (N := 20) hx hb hts inX10 hown hK hP k ((world_get E S hk).trans (by rw [hs])) rfl 11 (by decide) (hts _ hw) (fun _ h => h) hv hd (kk H locs ls hP hD hS hl)
theorem pf10_11 {E : En} {X : Cx} {Q : State → Prop} {S : Mem} {cc : ByteArray} {own : String} {nL d pc : Nat} {ret : Option FieldType} {lv : List (Nat × Value)} {st : List Value} (hF : Fx E X cc own nL ret d) {k idx : Nat} {fs : List Value} {x : Int32} (hk : k < 70) (hs : sh E k (S k) = .inr (10, fs)) (hs2 : sh E k (upd (S k).1 11 x, (S k).2) = .inr (10, fs.set 11 (.int x))) (hlen : 11 < fs.length) (hw : Cond.fieldLink own idx "SelfScaleModel" "told" "I" ∈ BIG) (hd : decode cc pc = .ok (.putfield idx, 3)) (kk : J E X Q (wr S k 11 x) (pc + 3) lv st) : J E X Q S pc lv (.int x :: .ref (eA E k) :: st) := by
  rcases X with ⟨p, l, e, R, s, m, args, below, meth, c, n0, A, cells, slots⟩
  obtain ⟨hx, hb, hml, hn0, hown, hts, hK, hStr, hLit, hr, hlocks, hl0, hd1, hd2, hd3, hd4⟩ := hF
  intro H locs ls hP hD hS hl
  have e9 : (world E S).set k (eA E k, .inr (10, fs.set 11 (.int x))) = world E (wr S k 11 x) := by
    rw [← hs2, ← wr_at S k 11 x]
    exact world_set E hk (fun a h => wr_ne S k 11 x h)
  refine va_put (C := RX10) (T := TX10) (N := 20) (ty := .int) hx hb hts inX10 tyX10 tyX10_ok nmX10 hown hK hP hD hS k ((world_get E S hk).trans (by rw [hs])) rfl 11 (by decide) (hts _ hw) (fun _ h => h) rfl (by decide +kernel) rfl rfl hlen hd (fun H1 locs1 hP hD hS => ?_)
  rw [e9] at hP hD
  exact kk H1 locs1 ls hP hD hS hl
theorem gf10_12 {E : En} {X : Cx} {Q : State → Prop} {S : Mem} {cc : ByteArray} {own : String} {nL d pc : Nat} {ret : Option FieldType} {lv : List (Nat × Value)} {st : List Value} (hF : Fx E X cc own nL ret d) {k idx : Nat} {fs : List Value} {v : Value} (hk : k < 70) (hs : sh E k (S k) = .inr (10, fs)) (hv : fs[12]? = some v) (hw : Cond.fieldLink own idx "SelfScaleModel" "lines" "[I" ∈ BIG) (hd : decode cc pc = .ok (.getfield idx, 3)) (kk : J E X Q S (pc + 3) lv (v :: st)) : J E X Q S pc lv (.ref (eA E k) :: st) := by
  rcases X with ⟨p, l, e, R, s, m, args, below, meth, c, n0, A, cells, slots⟩
  obtain ⟨hx, hb, hml, hn0, hown, hts, hK, hStr, hLit, hr, hlocks, hl0, hd1, hd2, hd3, hd4⟩ := hF
  intro H locs ls hP hD hS hl
  exact va_get (C := RX10) (T := TX10) (N := 20) hx hb hts inX10 hown hK hP k ((world_get E S hk).trans (by rw [hs])) rfl 12 (by decide) (hts _ hw) (fun _ h => h) hv hd (kk H locs ls hP hD hS hl)
theorem gf10_13 {E : En} {X : Cx} {Q : State → Prop} {S : Mem} {cc : ByteArray} {own : String} {nL d pc : Nat} {ret : Option FieldType} {lv : List (Nat × Value)} {st : List Value} (hF : Fx E X cc own nL ret d) {k idx : Nat} {fs : List Value} {v : Value} (hk : k < 70) (hs : sh E k (S k) = .inr (10, fs)) (hv : fs[13]? = some v) (hw : Cond.fieldLink own idx "SelfScaleModel" "row" "[I" ∈ BIG) (hd : decode cc pc = .ok (.getfield idx, 3)) (kk : J E X Q S (pc + 3) lv (v :: st)) : J E X Q S pc lv (.ref (eA E k) :: st) := by
  rcases X with ⟨p, l, e, R, s, m, args, below, meth, c, n0, A, cells, slots⟩
  obtain ⟨hx, hb, hml, hn0, hown, hts, hK, hStr, hLit, hr, hlocks, hl0, hd1, hd2, hd3, hd4⟩ := hF
  intro H locs ls hP hD hS hl
  exact va_get (C := RX10) (T := TX10) (N := 20) hx hb hts inX10 hown hK hP k ((world_get E S hk).trans (by rw [hs])) rfl 13 (by decide) (hts _ hw) (fun _ h => h) hv hd (kk H locs ls hP hD hS hl)
theorem gf10_14 {E : En} {X : Cx} {Q : State → Prop} {S : Mem} {cc : ByteArray} {own : String} {nL d pc : Nat} {ret : Option FieldType} {lv : List (Nat × Value)} {st : List Value} (hF : Fx E X cc own nL ret d) {k idx : Nat} {fs : List Value} {v : Value} (hk : k < 70) (hs : sh E k (S k) = .inr (10, fs)) (hv : fs[14]? = some v) (hw : Cond.fieldLink own idx "SelfScaleModel" "isKept" "[Z" ∈ BIG) (hd : decode cc pc = .ok (.getfield idx, 3)) (kk : J E X Q S (pc + 3) lv (v :: st)) : J E X Q S pc lv (.ref (eA E k) :: st) := by
  rcases X with ⟨p, l, e, R, s, m, args, below, meth, c, n0, A, cells, slots⟩
  obtain ⟨hx, hb, hml, hn0, hown, hts, hK, hStr, hLit, hr, hlocks, hl0, hd1, hd2, hd3, hd4⟩ := hF
  intro H locs ls hP hD hS hl
  exact va_get (C := RX10) (T := TX10) (N := 20) hx hb hts inX10 hown hK hP k ((world_get E S hk).trans (by rw [hs])) rfl 14 (by decide) (hts _ hw) (fun _ h => h) hv hd (kk H locs ls hP hD hS hl)
theorem gf10_15 {E : En} {X : Cx} {Q : State → Prop} {S : Mem} {cc : ByteArray} {own : String} {nL d pc : Nat} {ret : Option FieldType} {lv : List (Nat × Value)} {st : List Value} (hF : Fx E X cc own nL ret d) {k idx : Nat} {fs : List Value} {v : Value} (hk : k < 70) (hs : sh E k (S k) = .inr (10, fs)) (hv : fs[15]? = some v) (hw : Cond.fieldLink own idx "SelfScaleModel" "world" "[I" ∈ BIG) (hd : decode cc pc = .ok (.getfield idx, 3)) (kk : J E X Q S (pc + 3) lv (v :: st)) : J E X Q S pc lv (.ref (eA E k) :: st) := by
  rcases X with ⟨p, l, e, R, s, m, args, below, meth, c, n0, A, cells, slots⟩
  obtain ⟨hx, hb, hml, hn0, hown, hts, hK, hStr, hLit, hr, hlocks, hl0, hd1, hd2, hd3, hd4⟩ := hF
  intro H locs ls hP hD hS hl
  exact va_get (C := RX10) (T := TX10) (N := 20) hx hb hts inX10 hown hK hP k ((world_get E S hk).trans (by rw [hs])) rfl 15 (by decide) (hts _ hw) (fun _ h => h) hv hd (kk H locs ls hP hD hS hl)
theorem gf10_16 {E : En} {X : Cx} {Q : State → Prop} {S : Mem} {cc : ByteArray} {own : String} {nL d pc : Nat} {ret : Option FieldType} {lv : List (Nat × Value)} {st : List Value} (hF : Fx E X cc own nL ret d) {k idx : Nat} {fs : List Value} {v : Value} (hk : k < 70) (hs : sh E k (S k) = .inr (10, fs)) (hv : fs[16]? = some v) (hw : Cond.fieldLink own idx "SelfScaleModel" "shownMany" "[I" ∈ BIG) (hd : decode cc pc = .ok (.getfield idx, 3)) (kk : J E X Q S (pc + 3) lv (v :: st)) : J E X Q S pc lv (.ref (eA E k) :: st) := by
  rcases X with ⟨p, l, e, R, s, m, args, below, meth, c, n0, A, cells, slots⟩
  obtain ⟨hx, hb, hml, hn0, hown, hts, hK, hStr, hLit, hr, hlocks, hl0, hd1, hd2, hd3, hd4⟩ := hF
  intro H locs ls hP hD hS hl
  exact va_get (C := RX10) (T := TX10) (N := 20) hx hb hts inX10 hown hK hP k ((world_get E S hk).trans (by rw [hs])) rfl 16 (by decide) (hts _ hw) (fun _ h => h) hv hd (kk H locs ls hP hD hS hl)
theorem gf10_17 {E : En} {X : Cx} {Q : State → Prop} {S : Mem} {cc : ByteArray} {own : String} {nL d pc : Nat} {ret : Option FieldType} {lv : List (Nat × Value)} {st : List Value} (hF : Fx E X cc own nL ret d) {k idx : Nat} {fs : List Value} {v : Value} (hk : k < 70) (hs : sh E k (S k) = .inr (10, fs)) (hv : fs[17]? = some v) (hw : Cond.fieldLink own idx "SelfScaleModel" "seen" "[I" ∈ BIG) (hd : decode cc pc = .ok (.getfield idx, 3)) (kk : J E X Q S (pc + 3) lv (v :: st)) : J E X Q S pc lv (.ref (eA E k) :: st) := by
  rcases X with ⟨p, l, e, R, s, m, args, below, meth, c, n0, A, cells, slots⟩
  obtain ⟨hx, hb, hml, hn0, hown, hts, hK, hStr, hLit, hr, hlocks, hl0, hd1, hd2, hd3, hd4⟩ := hF
  intro H locs ls hP hD hS hl
  exact va_get (C := RX10) (T := TX10) (N := 20) hx hb hts inX10 hown hK hP k ((world_get E S hk).trans (by rw [hs])) rfl 17 (by decide) (hts _ hw) (fun _ h => h) hv hd (kk H locs ls hP hD hS hl)
theorem gf10_18 {E : En} {X : Cx} {Q : State → Prop} {S : Mem} {cc : ByteArray} {own : String} {nL d pc : Nat} {ret : Option FieldType} {lv : List (Nat × Value)} {st : List Value} (hF : Fx E X cc own nL ret d) {k idx : Nat} {fs : List Value} {v : Value} (hk : k < 70) (hs : sh E k (S k) = .inr (10, fs)) (hv : fs[18]? = some v) (hw : Cond.fieldLink own idx "SelfScaleModel" "isBad" "[Z" ∈ BIG) (hd : decode cc pc = .ok (.getfield idx, 3)) (kk : J E X Q S (pc + 3) lv (v :: st)) : J E X Q S pc lv (.ref (eA E k) :: st) := by
  rcases X with ⟨p, l, e, R, s, m, args, below, meth, c, n0, A, cells, slots⟩
  obtain ⟨hx, hb, hml, hn0, hown, hts, hK, hStr, hLit, hr, hlocks, hl0, hd1, hd2, hd3, hd4⟩ := hF
  intro H locs ls hP hD hS hl
  exact va_get (C := RX10) (T := TX10) (N := 20) hx hb hts inX10 hown hK hP k ((world_get E S hk).trans (by rw [hs])) rfl 18 (by decide) (hts _ hw) (fun _ h => h) hv hd (kk H locs ls hP hD hS hl)
theorem gf10_19 {E : En} {X : Cx} {Q : State → Prop} {S : Mem} {cc : ByteArray} {own : String} {nL d pc : Nat} {ret : Option FieldType} {lv : List (Nat × Value)} {st : List Value} (hF : Fx E X cc own nL ret d) {k idx : Nat} {fs : List Value} {v : Value} (hk : k < 70) (hs : sh E k (S k) = .inr (10, fs)) (hv : fs[19]? = some v) (hw : Cond.fieldLink own idx "SelfScaleModel" "comes" "[I" ∈ BIG) (hd : decode cc pc = .ok (.getfield idx, 3)) (kk : J E X Q S (pc + 3) lv (v :: st)) : J E X Q S pc lv (.ref (eA E k) :: st) := by
  rcases X with ⟨p, l, e, R, s, m, args, below, meth, c, n0, A, cells, slots⟩
  obtain ⟨hx, hb, hml, hn0, hown, hts, hK, hStr, hLit, hr, hlocks, hl0, hd1, hd2, hd3, hd4⟩ := hF
  intro H locs ls hP hD hS hl
  exact va_get (C := RX10) (T := TX10) (N := 20) hx hb hts inX10 hown hK hP k ((world_get E S hk).trans (by rw [hs])) rfl 19 (by decide) (hts _ hw) (fun _ h => h) hv hd (kk H locs ls hP hD hS hl)
theorem j_iald {α : Type} {A1 : Option α} {o : α} {E : En} {X : Cx} {Q : State → Prop} {S : Mem} {cc : ByteArray} {own : String} {nL d pc : Nat} {ret : Option FieldType} {lv : List (Nat × Value)} {st : List Value} (hF : Fx E X cc own nL ret d) {k n : Nat} {i : Int32} (hk : k < 70) (hs : ∀ c, sh E k c = .inl (eI E, n, .inl c.1)) (h : (if i < 0 ∨ n ≤ i.toNatClampNeg then none else A1) = some o) (hd : decode cc pc = .ok (.iaload, 1)) (kk : A1 = some o → J E X Q S (pc + 1) lv (.int ((S k).1 i.toNatClampNeg) :: st)) : J E X Q S pc lv (.int i :: .ref (eA E k) :: st) := by
  rcases X with ⟨p, l, e, R, s, m, args, below, meth, c, n0, A, cells, slots⟩
  obtain ⟨hx, hb, hml, hn0, hown, hts, hK, hStr, hLit, hr, hlocks, hl0, hd1, hd2, hd3, hd4⟩ := hF
  intro H locs ls hP hD hS hl
  by_cases c0 : i < 0 ∨ n ≤ i.toNatClampNeg
  · rw [if_pos c0] at h; cases h
  · exact va_iald hx hb hK hP k 0 ((world_get E S hk).trans (by rw [hs])) rfl c0 hd (kk (by rw [if_neg c0] at h; exact h) H locs ls hP hD hS hl)
theorem j_iast {α : Type} {A1 : Option α} {o : α} {E : En} {X : Cx} {Q : State → Prop} {S : Mem} {cc : ByteArray} {own : String} {nL d pc : Nat} {ret : Option FieldType} {lv : List (Nat × Value)} {st : List Value} (hF : Fx E X cc own nL ret d) {k n : Nat} {i x : Int32} (hk : k < 70) (hs : ∀ c, sh E k c = .inl (eI E, n, .inl c.1)) (h : (if i < 0 ∨ n ≤ i.toNatClampNeg then none else A1) = some o) (hd : decode cc pc = .ok (.iastore, 1)) (kk : A1 = some o → J E X Q (wr S k i.toNatClampNeg (x)) (pc + 1) lv st) : J E X Q S pc lv (.int x :: .int i :: .ref (eA E k) :: st) := by
  rcases X with ⟨p, l, e, R, s, m, args, below, meth, c, n0, A, cells, slots⟩
  obtain ⟨hx, hb, hml, hn0, hown, hts, hK, hStr, hLit, hr, hlocks, hl0, hd1, hd2, hd3, hd4⟩ := hF
  intro H locs ls hP hD hS hl
  by_cases c0 : i < 0 ∨ n ≤ i.toNatClampNeg
  · rw [if_pos c0] at h; cases h
  · have e9 : (world E S).set k (eA E k, .inl (eI E, n, .inl (upd (S k).1 i.toNatClampNeg (x)))) = world E (wr S k i.toNatClampNeg (x)) := by
      rw [← world_set E hk (fun a h => wr_ne S k i.toNatClampNeg (x) h), hs, wr_at]
    refine va_iast hx hb hK hP hD hS k 0 ((world_get E S hk).trans (by rw [hs])) rfl c0 hd (fun H1 locs1 hP hD hS => ?_)
    rw [e9] at hP hD
    exact kk (by rw [if_neg c0] at h; exact h) H1 locs1 ls hP hD hS hl
theorem j_bald {α : Type} {A1 : Option α} {o : α} {E : En} {X : Cx} {Q : State → Prop} {S : Mem} {cc : ByteArray} {own : String} {nL d pc : Nat} {ret : Option FieldType} {lv : List (Nat × Value)} {st : List Value} (hF : Fx E X cc own nL ret d) {k n : Nat} {i : Int32} (hk : k < 70) (hs : ∀ c, sh E k c = .inl (eB E, n, .inl c.1)) (h : (if i < 0 ∨ n ≤ i.toNatClampNeg then none else A1) = some o) (hd : decode cc pc = .ok (.baload, 1)) (kk : A1 = some o → J E X Q S (pc + 1) lv (.int ((S k).1 i.toNatClampNeg) :: st)) : J E X Q S pc lv (.int i :: .ref (eA E k) :: st) := by
  rcases X with ⟨p, l, e, R, s, m, args, below, meth, c, n0, A, cells, slots⟩
  obtain ⟨hx, hb, hml, hn0, hown, hts, hK, hStr, hLit, hr, hlocks, hl0, hd1, hd2, hd3, hd4⟩ := hF
  intro H locs ls hP hD hS hl
  by_cases c0 : i < 0 ∨ n ≤ i.toNatClampNeg
  · rw [if_pos c0] at h; cases h
  · exact va_bald hx hb hK hP k 1 ((world_get E S hk).trans (by rw [hs])) rfl c0 hd (kk (by rw [if_neg c0] at h; exact h) H locs ls hP hD hS hl)
theorem j_bast {α : Type} {A1 : Option α} {o : α} {E : En} {X : Cx} {Q : State → Prop} {S : Mem} {cc : ByteArray} {own : String} {nL d pc : Nat} {ret : Option FieldType} {lv : List (Nat × Value)} {st : List Value} (hF : Fx E X cc own nL ret d) {k n : Nat} {i x : Int32} (hk : k < 70) (hs : ∀ c, sh E k c = .inl (eB E, n, .inl c.1)) (h : (if i < 0 ∨ n ≤ i.toNatClampNeg then none else A1) = some o) (hd : decode cc pc = .ok (.bastore, 1)) (kk : A1 = some o → J E X Q (wr S k i.toNatClampNeg (vp_nar .byte x)) (pc + 1) lv st) : J E X Q S pc lv (.int x :: .int i :: .ref (eA E k) :: st) := by
  rcases X with ⟨p, l, e, R, s, m, args, below, meth, c, n0, A, cells, slots⟩
  obtain ⟨hx, hb, hml, hn0, hown, hts, hK, hStr, hLit, hr, hlocks, hl0, hd1, hd2, hd3, hd4⟩ := hF
  intro H locs ls hP hD hS hl
  by_cases c0 : i < 0 ∨ n ≤ i.toNatClampNeg
  · rw [if_pos c0] at h; cases h
  · have e9 : (world E S).set k (eA E k, .inl (eB E, n, .inl (upd (S k).1 i.toNatClampNeg (vp_nar .byte x)))) = world E (wr S k i.toNatClampNeg (vp_nar .byte x)) := by
      rw [← world_set E hk (fun a h => wr_ne S k i.toNatClampNeg (vp_nar .byte x) h), hs, wr_at]
    refine va_bast hx hb hK hP hD hS k 1 ((world_get E S hk).trans (by rw [hs])) rfl c0 hd (fun H1 locs1 hP hD hS => ?_)
    rw [e9] at hP hD
    exact kk (by rw [if_neg c0] at h; exact h) H1 locs1 ls hP hD hS hl
theorem j_zald {α : Type} {A1 : Option α} {o : α} {E : En} {X : Cx} {Q : State → Prop} {S : Mem} {cc : ByteArray} {own : String} {nL d pc : Nat} {ret : Option FieldType} {lv : List (Nat × Value)} {st : List Value} (hF : Fx E X cc own nL ret d) {k n : Nat} {i : Int32} (hk : k < 70) (hs : ∀ c, sh E k c = .inl (eZ E, n, .inl c.1)) (h : (if i < 0 ∨ n ≤ i.toNatClampNeg then none else A1) = some o) (hd : decode cc pc = .ok (.baload, 1)) (kk : A1 = some o → J E X Q S (pc + 1) lv (.int ((S k).1 i.toNatClampNeg) :: st)) : J E X Q S pc lv (.int i :: .ref (eA E k) :: st) := by
  rcases X with ⟨p, l, e, R, s, m, args, below, meth, c, n0, A, cells, slots⟩
  obtain ⟨hx, hb, hml, hn0, hown, hts, hK, hStr, hLit, hr, hlocks, hl0, hd1, hd2, hd3, hd4⟩ := hF
  intro H locs ls hP hD hS hl
  by_cases c0 : i < 0 ∨ n ≤ i.toNatClampNeg
  · rw [if_pos c0] at h; cases h
  · exact va_zald hx hb hK hP k 2 ((world_get E S hk).trans (by rw [hs])) rfl c0 hd (kk (by rw [if_neg c0] at h; exact h) H locs ls hP hD hS hl)
theorem j_zast {α : Type} {A1 : Option α} {o : α} {E : En} {X : Cx} {Q : State → Prop} {S : Mem} {cc : ByteArray} {own : String} {nL d pc : Nat} {ret : Option FieldType} {lv : List (Nat × Value)} {st : List Value} (hF : Fx E X cc own nL ret d) {k n : Nat} {i x : Int32} (hk : k < 70) (hs : ∀ c, sh E k c = .inl (eZ E, n, .inl c.1)) (h : (if i < 0 ∨ n ≤ i.toNatClampNeg then none else A1) = some o) (hd : decode cc pc = .ok (.bastore, 1)) (kk : A1 = some o → J E X Q (wr S k i.toNatClampNeg (vp_nar .boolean x)) (pc + 1) lv st) : J E X Q S pc lv (.int x :: .int i :: .ref (eA E k) :: st) := by
  rcases X with ⟨p, l, e, R, s, m, args, below, meth, c, n0, A, cells, slots⟩
  obtain ⟨hx, hb, hml, hn0, hown, hts, hK, hStr, hLit, hr, hlocks, hl0, hd1, hd2, hd3, hd4⟩ := hF
  intro H locs ls hP hD hS hl
  by_cases c0 : i < 0 ∨ n ≤ i.toNatClampNeg
  · rw [if_pos c0] at h; cases h
  · have e9 : (world E S).set k (eA E k, .inl (eZ E, n, .inl (upd (S k).1 i.toNatClampNeg (vp_nar .boolean x)))) = world E (wr S k i.toNatClampNeg (vp_nar .boolean x)) := by
      rw [← world_set E hk (fun a h => wr_ne S k i.toNatClampNeg (vp_nar .boolean x) h), hs, wr_at]
    refine va_zast hx hb hK hP hD hS k 2 ((world_get E S hk).trans (by rw [hs])) rfl c0 hd (fun H1 locs1 hP hD hS => ?_)
    rw [e9] at hP hD
    exact kk (by rw [if_neg c0] at h; exact h) H1 locs1 ls hP hD hS hl
theorem j_alen {E : En} {X : Cx} {Q : State → Prop} {S : Mem} {cc : ByteArray} {own : String} {nL d pc : Nat} {ret : Option FieldType} {lv : List (Nat × Value)} {st : List Value} (hF : Fx E X cc own nL ret d) {k n t0 : Nat} {cA : ClassId} {f : Nat → Int32} {ty : FieldType} {v : Int32} (hk : k < 70) (hs : sh E k (S k) = .inl (cA, n, .inl f)) (ht : (en_ty E)[t0]? = some (cA, ty)) (hv : Int32.ofNat n = v) (hd : decode cc pc = .ok (.arraylength, 1)) (kk : J E X Q S (pc + 1) lv (.int v :: st)) : J E X Q S pc lv (.ref (eA E k) :: st) := by
  rcases X with ⟨p, l, e, R, s, m, args, below, meth, c, n0, A, cells, slots⟩
  obtain ⟨hx, hb, hml, hn0, hown, hts, hK, hStr, hLit, hr, hlocks, hl0, hd1, hd2, hd3, hd4⟩ := hF
  intro H locs ls hP hD hS hl
  exact va_alen hx hb hK hP k t0 ((world_get E S hk).trans (by rw [hs])) ht hv hd (kk H locs ls hP hD hS hl)
theorem j_iret {E : En} {X : Cx} {Q : State → Prop} {S : Mem} {cc : ByteArray} {own : String} {nL d pc : Nat} {lv : List (Nat × Value)} (hF : Fx E X cc own nL (some .int) d) {v : Int32} (hQ : Q = RQ E X (some (.int v)) S) (hd : decode cc pc = .ok (.ireturn, 1)) : J E X Q S pc lv [.int v] := by
  subst hQ
  rcases X with ⟨p, l, e, R, s, m, args, below, meth, c, n0, A, cells, slots⟩
  obtain ⟨hx, hb, hml, hn0, hown, hts, hK, hStr, hLit, hr, hlocks, hl0, hd1, hd2, hd3, hd4⟩ := hF
  intro H locs ls hP hD hS hl
  exact W.iret (Qc := fun _ st oc t => oc = .returned (some (.int v)) ∧ Hd E S t ∧ va_F A st t) hx hb hr (fun t ht hW => ⟨rfl, ⟨by rw [ht]; exact hP, va_K.moved hW.alike hK, world_D E S S hD (fun _ h => h), by rw [ht]; exact ((hStr.kept hS.2.1).moved hW.alike).narrow (world_in E S hD), hLit.warm hW⟩, hS.F ht⟩) hS.2.2 hd hlocks
theorem j_ret_boolean {E : En} {X : Cx} {Q : State → Prop} {S : Mem} {cc : ByteArray} {own : String} {nL d pc : Nat} {lv : List (Nat × Value)} (hF : Fx E X cc own nL (some .boolean) d) {v : Int32} (hn : narrow .boolean (.int v) = .int v) (hQ : Q = RQ E X (some (.int v)) S) (hd : decode cc pc = .ok (.ireturn, 1)) : J E X Q S pc lv [.int v] := by
  subst hQ
  rcases X with ⟨p, l, e, R, s, m, args, below, meth, c, n0, A, cells, slots⟩
  obtain ⟨hx, hb, hml, hn0, hown, hts, hK, hStr, hLit, hr, hlocks, hl0, hd1, hd2, hd3, hd4⟩ := hF
  intro H locs ls hP hD hS hl
  exact W.zret (Qc := fun _ st oc t => oc = .returned (some (.int v)) ∧ Hd E S t ∧ va_F A st t) hx hb hr hn (fun t ht hW => ⟨rfl, ⟨by rw [ht]; exact hP, va_K.moved hW.alike hK, world_D E S S hD (fun _ h => h), by rw [ht]; exact ((hStr.kept hS.2.1).moved hW.alike).narrow (world_in E S hD), hLit.warm hW⟩, hS.F ht⟩) hS.2.2 hd hlocks
theorem j_ret_byte {E : En} {X : Cx} {Q : State → Prop} {S : Mem} {cc : ByteArray} {own : String} {nL d pc : Nat} {lv : List (Nat × Value)} (hF : Fx E X cc own nL (some .byte) d) {v : Int32} (hn : narrow .byte (.int v) = .int v) (hQ : Q = RQ E X (some (.int v)) S) (hd : decode cc pc = .ok (.ireturn, 1)) : J E X Q S pc lv [.int v] := by
  subst hQ
  rcases X with ⟨p, l, e, R, s, m, args, below, meth, c, n0, A, cells, slots⟩
  obtain ⟨hx, hb, hml, hn0, hown, hts, hK, hStr, hLit, hr, hlocks, hl0, hd1, hd2, hd3, hd4⟩ := hF
  intro H locs ls hP hD hS hl
  exact W.zret (Qc := fun _ st oc t => oc = .returned (some (.int v)) ∧ Hd E S t ∧ va_F A st t) hx hb hr hn (fun t ht hW => ⟨rfl, ⟨by rw [ht]; exact hP, va_K.moved hW.alike hK, world_D E S S hD (fun _ h => h), by rw [ht]; exact ((hStr.kept hS.2.1).moved hW.alike).narrow (world_in E S hD), hLit.warm hW⟩, hS.F ht⟩) hS.2.2 hd hlocks
theorem j_ret_char {E : En} {X : Cx} {Q : State → Prop} {S : Mem} {cc : ByteArray} {own : String} {nL d pc : Nat} {lv : List (Nat × Value)} (hF : Fx E X cc own nL (some .char) d) {v : Int32} (hn : narrow .char (.int v) = .int v) (hQ : Q = RQ E X (some (.int v)) S) (hd : decode cc pc = .ok (.ireturn, 1)) : J E X Q S pc lv [.int v] := by
  subst hQ
  rcases X with ⟨p, l, e, R, s, m, args, below, meth, c, n0, A, cells, slots⟩
  obtain ⟨hx, hb, hml, hn0, hown, hts, hK, hStr, hLit, hr, hlocks, hl0, hd1, hd2, hd3, hd4⟩ := hF
  intro H locs ls hP hD hS hl
  exact W.zret (Qc := fun _ st oc t => oc = .returned (some (.int v)) ∧ Hd E S t ∧ va_F A st t) hx hb hr hn (fun t ht hW => ⟨rfl, ⟨by rw [ht]; exact hP, va_K.moved hW.alike hK, world_D E S S hD (fun _ h => h), by rw [ht]; exact ((hStr.kept hS.2.1).moved hW.alike).narrow (world_in E S hD), hLit.warm hW⟩, hS.F ht⟩) hS.2.2 hd hlocks
theorem j_lret {E : En} {X : Cx} {Q : State → Prop} {S : Mem} {cc : ByteArray} {own : String} {nL d pc : Nat} {lv : List (Nat × Value)} (hF : Fx E X cc own nL (some .long) d) {v : Int64} (hQ : Q = RQ E X (some (.long v)) S) (hd : decode cc pc = .ok (.lreturn, 1)) : J E X Q S pc lv [.long v] := by
  subst hQ
  rcases X with ⟨p, l, e, R, s, m, args, below, meth, c, n0, A, cells, slots⟩
  obtain ⟨hx, hb, hml, hn0, hown, hts, hK, hStr, hLit, hr, hlocks, hl0, hd1, hd2, hd3, hd4⟩ := hF
  intro H locs ls hP hD hS hl
  exact W.lret (Qc := fun _ st oc t => oc = .returned (some (.long v)) ∧ Hd E S t ∧ va_F A st t) hx hb hr (fun t ht hW => ⟨rfl, ⟨by rw [ht]; exact hP, va_K.moved hW.alike hK, world_D E S S hD (fun _ h => h), by rw [ht]; exact ((hStr.kept hS.2.1).moved hW.alike).narrow (world_in E S hD), hLit.warm hW⟩, hS.F ht⟩) hS.2.2 hd hlocks
theorem j_aret {n : String} {E : En} {X : Cx} {Q : State → Prop} {S : Mem} {cc : ByteArray} {own : String} {nL d pc : Nat} {lv : List (Nat × Value)} (hF : Fx E X cc own nL (some (.object n)) d) {a : Nat} (hQ : Q = RQ E X (some (.ref a)) S) (hd : decode cc pc = .ok (.areturn, 1)) : J E X Q S pc lv [.ref a] := by
  subst hQ
  rcases X with ⟨p, l, e, R, s, m, args, below, meth, c, n0, A, cells, slots⟩
  obtain ⟨hx, hb, hml, hn0, hown, hts, hK, hStr, hLit, hr, hlocks, hl0, hd1, hd2, hd3, hd4⟩ := hF
  intro H locs ls hP hD hS hl
  exact W.aret (Qc := fun _ st oc t => oc = .returned (some (.ref a)) ∧ Hd E S t ∧ va_F A st t) hx hb hr (Or.inl ⟨_, rfl⟩) (Or.inr ⟨_, rfl⟩) (fun t ht hW => ⟨rfl, ⟨by rw [ht]; exact hP, va_K.moved hW.alike hK, world_D E S S hD (fun _ h => h), by rw [ht]; exact ((hStr.kept hS.2.1).moved hW.alike).narrow (world_in E S hD), hLit.warm hW⟩, hS.F ht⟩) hS.2.2 hd hlocks
theorem j_vret {E : En} {X : Cx} {Q : State → Prop} {S : Mem} {cc : ByteArray} {own : String} {nL d pc : Nat} {lv : List (Nat × Value)} (hF : Fx E X cc own nL none d) (hQ : Q = RQ E X none S) (hd : decode cc pc = .ok (.return_, 1)) : J E X Q S pc lv [] := by
  subst hQ
  rcases X with ⟨p, l, e, R, s, m, args, below, meth, c, n0, A, cells, slots⟩
  obtain ⟨hx, hb, hml, hn0, hown, hts, hK, hStr, hLit, hr, hlocks, hl0, hd1, hd2, hd3, hd4⟩ := hF
  intro H locs ls hP hD hS hl
  exact W.vret (Qc := fun _ st oc t => oc = .returned (none) ∧ Hd E S t ∧ va_F A st t) hx hb hr (fun t ht hW => ⟨rfl, ⟨by rw [ht]; exact hP, va_K.moved hW.alike hK, world_D E S S hD (fun _ h => h), by rw [ht]; exact ((hStr.kept hS.2.1).moved hW.alike).narrow (world_in E S hD), hLit.warm hW⟩, hS.F ht⟩) hS.2.2 hd hlocks
theorem Hd_blind {E : En} {S : Mem} {av : List Value} : FrameBlind (va_Pc av (Hd E S)) := fun a U g mk q => ⟨q.1, q.2.1, va_K.moved (u := U) (U := U.calling g mk a) (Vm.Alike.refl U.vm) q.2.2.1, q.2.2.2.1, Str.moved (u := U) (U := U.calling g mk a) (Vm.Alike.refl U.vm) q.2.2.2.2.1, Lit.same (u := U) (U := U.calling g mk a) rfl q.2.2.2.2.2⟩
theorem call_end {E : En} {p : Program} {l : Launch} {e : Env} {R : Room} {s : State} {m : MethodId} {args : Array Value} {below : List Frame} {meth : Method} {c : Code} {n0 : Nat} {A : Nat → Prop} {cells slots : Nat} {Q : State → Prop} {H : Heap} {locs : List Loc} {pc : Nat} {ls : Array Slot} {st0 rest : List Value} {S S' : Mem} {lv : List (Nat × Value)} {ov : Option Value}
    (hr : va_Run p l e R s m args below meth c H locs cells slots 0 0 (F0 m pc ls st0) rest (fun st oc t => oc = .returned ov ∧ Hd E S' t ∧ va_F (inW E) st t) (inW E)) (hD : va_D A (world E S)) (hS : va_S A s.heap H locs) (hl : lv_has ls n0 lv)
    (k : J E (p, l, e, R, s, m, args, below, meth, c, n0, A, cells, slots) Q S' (pc + 3) lv (ov.toList ++ rest)) : W p l e R s m args below meth c H locs cells slots Q (F0 m pc ls st0) := by
  intro T hT X
  obtain ⟨v, st₀, t, T', L, h0, X', hL, e1, e2, ⟨hv, hH, hz, hk⟩, stp⟩ := hr T hT X
  cases hv
  rw [h0] at hz hk
  have hin := world_in E S hD
  obtain ⟨t2, a1, b1⟩ := k T'.heap (locs ++ L) ls (by rw [e1]; exact hH.1) (world_D E S S' hD hin) ⟨Nat.le_trans hS.1 (by rw [e1]; exact hz), fun q h1 h2 => by rw [e1, hk q (Nat.lt_of_lt_of_le h1 hS.1) (fun z => h2 (hin q z))]; exact hS.2.1 q h1 h2, fun q hq => by
      rcases List.mem_append.mp hq with h | h
      · exact hS.2.2 q h
      · exact hin _ (hL q h)⟩ hl T' rfl X'
  exact ⟨t2, stp t2 a1, b1⟩
/-- what the tables say of an instance method of C with n arguments -/
def MV (y : MethodName) (bytes : ByteArray) (maxL : Nat) (ret : Option FieldType) (C : String) (n : Nat) : Prop := (y.cls = C ∧ maxL ≤ 13) ∧ (y.cls ≠ "java/lang/invoke/MethodHandle" ∧ y.cls ≠ "java/lang/invoke/VarHandle" ∧ (parseMethodDescriptor y.desc).map (fun d => d.parameters.length) = some n) ∧ Cond.code y bytes maxL ret ∈ BIG ∧ Cond.initialized C ∈ BIG ∧ Cond.instanceMethod y ∈ BIG ∧ Cond.selects C y y ∈ BIG
/-- of a static one -/
def MS (y : MethodName) (bytes : ByteArray) (maxL : Nat) (ret : Option FieldType) (n : Nat) : Prop := maxL ≤ 13 ∧ (y.cls ≠ "java/lang/invoke/MethodHandle" ∧ y.cls ≠ "java/lang/invoke/VarHandle" ∧ (parseMethodDescriptor y.desc).map (fun d => d.parameters.length) = some n) ∧ Cond.code y bytes maxL ret ∈ BIG ∧ Cond.initialized y.cls ∈ BIG ∧ Cond.static y ∈ BIG
theorem j_callV {E : En} {X : Cx} {Q : State → Prop} {S : Mem} {cc : ByteArray} {own : String} {nL d pc : Nat} {ret : Option FieldType} {lv : List (Nat × Value)} {st : List Value} (hF : Fx E X cc own nL ret d) {y : MethodName} {bytes : ByteArray} {maxL d2 idx n k ci N : Nat} {ret2 : Option FieldType} {As : List Value} {ov : Option Value} {S2 : Mem} {fs : List Value} {C : String} {T : u_T} (hm : MV y bytes maxL ret2 C n) (hk : k < 70) (hs : sh E k (S k) = .inr (ci, fs)) (hcl : classes[ci]? = some (C, T, N)) (wl : Cond.methodLink own idx y ∈ BIG) (hn : As.length = n) (hdd : d2 + 1 ≤ d) (hst : (st.map fun v => v.category).sum ≤ 8) (hd : decode cc pc = .ok (.invokevirtual idx, 3)) (hM : CT E y bytes maxL ret2 d2 (.ref (eA E k) :: As) S ov S2) (kk : J E X Q S2 (pc + 3) lv (ov.toList ++ st)) : J E X Q S pc lv (As.reverse ++ .ref (eA E k) :: st) := by
  rcases X with ⟨p, l, e, R, s, m, args, below, meth, c, n0, A, cells, slots⟩
  obtain ⟨hx, hb, hml, hn0, hown, hts, hK, hStr, hLit, hr, hlocks, hl0, hd1, hd2, hd3, hd4⟩ := hF
  intro H locs ls hP hD hS hl
  obtain ⟨⟨hyC, hmx⟩, hy, wc, wini, wi, wse⟩ := hm
  subst hl0
  subst hn0
  refine call_end (S := S) (S' := S2) (ov := ov) (rest := st) (va_runV (As := As) (rest := st) (n := n) (C := C) ⟨hx, hb, hml, hown, hts⟩ hM ⟨callB_of n hts (goodBIG0 wc) rfl rfl rfl (by rw [hyC]; exact hts _ wini) (hts _ wl) hy ⟨by show d2 + 1 ≤ _; omega, by show 8 + (maxL + 11) + 32 * d2 ≤ _; omega⟩, hts _ wi, hts _ wse⟩ ⟨Hd_blind, va_recv hK hP hcl ((world_get E S hk).trans (by rw [hs])), (fun U hU hW => ⟨rfl, by rw [hU]; exact hP, va_K.moved hW.alike hK, world_D E S S hD (fun _ h => h), by rw [hU]; exact ((hStr.kept hS.2.1).moved hW.alike).narrow (world_in E S hD), hLit.warm hW⟩)⟩ rfl hn hl.1 rfl (by show 2 * 0 + _ ≤ 8; omega) hd ⟨hd3, hd4⟩) hD hS hl kk
theorem j_callS {E : En} {X : Cx} {Q : State → Prop} {S : Mem} {cc : ByteArray} {own : String} {nL d pc : Nat} {ret : Option FieldType} {lv : List (Nat × Value)} {st : List Value} (hF : Fx E X cc own nL ret d) {y : MethodName} {bytes : ByteArray} {maxL d2 idx n : Nat} {ret2 : Option FieldType} {As : List Value} {ov : Option Value} {S2 : Mem} (hm : MS y bytes maxL ret2 n) (wl : Cond.methodLink own idx y ∈ BIG) (hn : As.length = n) (hdd : d2 + 1 ≤ d) (hst : (st.map fun v => v.category).sum ≤ 8) (hd : decode cc pc = .ok (.invokestatic idx, 3)) (hM : CT E y bytes maxL ret2 d2 As S ov S2) (kk : J E X Q S2 (pc + 3) lv (ov.toList ++ st)) : J E X Q S pc lv (As.reverse ++ st) := by
  rcases X with ⟨p, l, e, R, s, m, args, below, meth, c, n0, A, cells, slots⟩
  obtain ⟨hx, hb, hml, hn0, hown, hts, hK, hStr, hLit, hr, hlocks, hl0, hd1, hd2, hd3, hd4⟩ := hF
  intro H locs ls hP hD hS hl
  obtain ⟨hmx, hy, wc, wini, wst⟩ := hm
  subst hl0
  subst hn0
  refine call_end (S := S) (S' := S2) (ov := ov) (rest := st) (va_runS (As := As) (rest := st) (n := n) ⟨hx, hb, hml, hown, hts⟩ hM ⟨callB_of n hts (goodBIG0 wc) rfl rfl rfl (hts _ wini) (hts _ wl) hy ⟨by show d2 + 1 ≤ _; omega, by show 8 + (maxL + 11) + 32 * d2 ≤ _; omega⟩, hts _ wst⟩ ⟨Hd_blind, (fun U hU hW => ⟨rfl, by rw [hU]; exact hP, va_K.moved hW.alike hK, world_D E S S hD (fun _ h => h), by rw [hU]; exact ((hStr.kept hS.2.1).moved hW.alike).narrow (world_in E S hD), hLit.warm hW⟩)⟩ rfl hn hl.1 rfl (by show 2 * 0 + _ ≤ 8; omega) hd ⟨hd3, hd4⟩) hD hS hl kk
theorem j_callSN {E : En} {X : Cx} {Q : State → Prop} {S : Mem} {cc : ByteArray} {own : String} {nL d pc : Nat} {ret : Option FieldType} {lv : List (Nat × Value)} {st : List Value} (hF : Fx E X cc own nL ret d) {bytes : ByteArray} {maxL d2 n : Nat} {ret2 : Option FieldType} {As : List Value} {ov : Option Value} {S2 : Mem} (hown4 : own = RX4) (hm : MS yX9_isBetween bytes maxL ret2 n) (hn : As.length = n) (hdd : d2 + 1 ≤ d) (hst : (st.map fun v => v.category).sum ≤ 8) (hd : decode cc pc = .ok (.invokestatic 66, 3)) (hM : CT E yX9_isBetween bytes maxL ret2 d2 As S ov S2) (kk : J E X Q S2 (pc + 3) lv (ov.toList ++ st)) : J E X Q S pc lv (As.reverse ++ st) := by
  subst hown4
  rcases X with ⟨p, l, e, R, s, m, args, below, meth, c, n0, A, cells, slots⟩
  obtain ⟨hx, hb, hml, hn0, hown, hts, hK, hStr, hLit, hr, hlocks, hl0, hd1, hd2, hd3, hd4⟩ := hF
  intro H locs ls hP hD hS hl
  obtain ⟨hmx, hy, wc, wini, wst⟩ := hm
  subst hl0
  subst hn0
  refine call_end (S := S) (S' := S2) (ov := ov) (rest := st) (va_runSN (As := As) (rest := st) (n := n) (host := RX9) ⟨hx, hb, hml, hown, hts⟩ hM ⟨va_cnB n hts (goodBIG0 wc) rfl rfl rfl hLit.2.2.2 (hts _ wini) hy ⟨by show d2 + 1 ≤ _; omega, by show 8 + (maxL + 11) + 32 * d2 ≤ _; omega⟩, hts _ wst, trivial⟩ ⟨Hd_blind, (fun U hU hW => ⟨rfl, by rw [hU]; exact hP, va_K.moved hW.alike hK, world_D E S S hD (fun _ h => h), by rw [hU]; exact ((hStr.kept hS.2.1).moved hW.alike).narrow (world_in E S hD), hLit.warm hW⟩)⟩ rfl hn hl.1 rfl (by show 2 * 0 + _ ≤ 8; omega) hd ⟨hd3, hd4⟩) hD hS hl kk
theorem j_mmax {E : En} {X : Cx} {Q : State → Prop} {S : Mem} {cc : ByteArray} {own : String} {nL d pc : Nat} {ret : Option FieldType} {lv : List (Nat × Value)} {st : List Value} (hF : Fx E X cc own nL ret d) {idx : Nat} {x y : Int32} (wl : Cond.methodLink own idx Lib.Math.max.name ∈ BIG) (ws : Cond.static Lib.Math.max.name ∈ BIG) (wi : Cond.initialized "java/lang/Math" ∈ BIG) (wc : Cond.code Lib.Math.max.name Lib.Math.max.code 2 (some .int) ∈ BIG) (h1 : 1 ≤ d) (hst : (st.map fun v => v.category).sum ≤ 8) (hd : decode cc pc = .ok (.invokestatic idx, 3)) (kk : J E X Q S (pc + 3) lv (.int (if x < y then y else x) :: st)) : J E X Q S pc lv (.int y :: .int x :: st) := by
  rcases X with ⟨p, l, e, R, s, m, args, below, meth, c, n0, A, cells, slots⟩
  obtain ⟨hx, hb, hml, hn0, hown, hts, hK, hStr, hLit, hr, hlocks, hl0, hd1, hd2, hd3, hd4⟩ := hF
  intro H locs ls hP hD hS hl
  exact va_mmax hx hb (by rw [hml, ← hn0]; exact hl.1.symm) hown (hts _ wl) (hts _ ws) (hts _ wi) (hts _ wc) (by omega) (by omega) hd3 hd4 hd (kk H locs ls hP hD hS hl)
theorem j_mmin {E : En} {X : Cx} {Q : State → Prop} {S : Mem} {cc : ByteArray} {own : String} {nL d pc : Nat} {ret : Option FieldType} {lv : List (Nat × Value)} {st : List Value} (hF : Fx E X cc own nL ret d) {idx : Nat} {x y : Int32} (wl : Cond.methodLink own idx Lib.Math.min.name ∈ BIG) (ws : Cond.static Lib.Math.min.name ∈ BIG) (wi : Cond.initialized "java/lang/Math" ∈ BIG) (wc : Cond.code Lib.Math.min.name Lib.Math.min.code 2 (some .int) ∈ BIG) (h1 : 1 ≤ d) (hst : (st.map fun v => v.category).sum ≤ 8) (hd : decode cc pc = .ok (.invokestatic idx, 3)) (kk : J E X Q S (pc + 3) lv (.int (if y < x then y else x) :: st)) : J E X Q S pc lv (.int y :: .int x :: st) := by
  rcases X with ⟨p, l, e, R, s, m, args, below, meth, c, n0, A, cells, slots⟩
  obtain ⟨hx, hb, hml, hn0, hown, hts, hK, hStr, hLit, hr, hlocks, hl0, hd1, hd2, hd3, hd4⟩ := hF
  intro H locs ls hP hD hS hl
  exact va_mmin hx hb (by rw [hml, ← hn0]; exact hl.1.symm) hown (hts _ wl) (hts _ ws) (hts _ wi) (hts _ wc) (by omega) (by omega) hd3 hd4 hd (kk H locs ls hP hD hS hl)
