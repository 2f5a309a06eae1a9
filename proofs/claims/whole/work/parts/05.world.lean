/-! THE WORLD: seventy cells, of which the memory says what they hold; the judgement J over it. -/
abbrev Mc : Type := (Nat → Int32) × Int64
abbrev Mem : Type := Nat → Mc
/-- launch, D, addresses, the classes of arrays of ints, bytes, booleans, addresses of the three literals and of their bytes -/
abbrev En : Type := Launch × va_G × (Nat → Nat) × ClassId × ClassId × ClassId × (Nat → Nat) × (Nat → Nat)
abbrev eA (E : En) : Nat → Nat := E.2.2.1
abbrev eI (E : En) : ClassId := E.2.2.2.1
abbrev eB (E : En) : ClassId := E.2.2.2.2.1
abbrev eZ (E : En) : ClassId := E.2.2.2.2.2.1
abbrev eK (E : En) : Nat → Nat := E.2.2.2.2.2.2.1
abbrev eV (E : En) : Nat → Nat := E.2.2.2.2.2.2.2
abbrev classes : List vw_C := [(RX0, TX0, 4), (RX1, TX1, 2), (RX2, TX2, 3), (RX3, TX3, 5), (RX4, TX4, 8), (RX5, TX5, 1), (RX6, TX6, 5), (RX7, TX7, 2), (RX8, TX8, 11), (RX9, TX9, 9), (RX10, TX10, 20)]
abbrev en_ty (E : En) : List (ClassId × FieldType) := [(eI E, .int), (eB E, .byte), (eZ E, .boolean)]
def shL (E : En) : List (Mc → va_E) := [fun c => .inr (9, [.ref (eA E 1), .ref (eA E 4), .ref (eA E 10), .ref (eA E 15), .ref (eA E 22), .ref (eA E 30), .ref (eA E 38), .ref (eA E 39), .ref (eA E 50)]),
  fun c => .inr (7, [.ref (eA E 2), .int (c.1 1)]),
  fun c => .inr (5, [.ref (eA E 3)]),
  fun c => .inl (eI E, 200, .inl c.1),
  fun c => .inr (4, [.ref (eA E 1), .ref (eA E 5), .int (c.1 2), .int (c.1 3), .int (c.1 4), .int (c.1 5), .int (c.1 6), .int (c.1 7)]),
  fun c => .inr (6, [.ref (eA E 6), .ref (eA E 8), .int (c.1 2), .int (c.1 3), .int (c.1 4)]),
  fun c => .inr (5, [.ref (eA E 7)]),
  fun c => .inl (eI E, 3, .inl c.1),
  fun c => .inr (5, [.ref (eA E 9)]),
  fun c => .inl (eI E, 8, .inl c.1),
  fun c => .inr (6, [.ref (eA E 11), .ref (eA E 13), .int (c.1 2), .int (c.1 3), .int (c.1 4)]),
  fun c => .inr (5, [.ref (eA E 12)]),
  fun c => .inl (eI E, 3, .inl c.1),
  fun c => .inr (5, [.ref (eA E 14)]),
  fun c => .inl (eI E, 8, .inl c.1),
  fun c => .inr (0, [.ref (eA E 16), .ref (eA E 18), .ref (eA E 20), .int (c.1 3)]),
  fun c => .inr (5, [.ref (eA E 17)]),
  fun c => .inl (eI E, 12, .inl c.1),
  fun c => .inr (5, [.ref (eA E 19)]),
  fun c => .inl (eI E, 12, .inl c.1),
  fun c => .inr (5, [.ref (eA E 21)]),
  fun c => .inl (eI E, 12, .inl c.1),
  fun c => .inr (1, [.ref (eA E 23), .int (c.1 1)]),
  fun c => .inr (0, [.ref (eA E 24), .ref (eA E 26), .ref (eA E 28), .int (c.1 3)]),
  fun c => .inr (5, [.ref (eA E 25)]),
  fun c => .inl (eI E, 12, .inl c.1),
  fun c => .inr (5, [.ref (eA E 27)]),
  fun c => .inl (eI E, 12, .inl c.1),
  fun c => .inr (5, [.ref (eA E 29)]),
  fun c => .inl (eI E, 12, .inl c.1),
  fun c => .inr (1, [.ref (eA E 31), .int (c.1 1)]),
  fun c => .inr (0, [.ref (eA E 32), .ref (eA E 34), .ref (eA E 36), .int (c.1 3)]),
  fun c => .inr (5, [.ref (eA E 33)]),
  fun c => .inl (eI E, 12, .inl c.1),
  fun c => .inr (5, [.ref (eA E 35)]),
  fun c => .inl (eI E, 12, .inl c.1),
  fun c => .inr (5, [.ref (eA E 37)]),
  fun c => .inl (eI E, 12, .inl c.1),
  fun c => .inr (2, [.ref (eA E 10), .ref (eA E 15), .long c.2]),
  fun c => .inr (8, [.ref (eA E 10), .ref (eA E 15), .ref (eA E 40), .ref (eA E 42), .ref (eA E 44), .ref (eA E 46), .ref (eA E 48), .int (c.1 7), .int (c.1 8), .int (c.1 9), .int (c.1 10)]),
  fun c => .inr (5, [.ref (eA E 41)]),
  fun c => .inl (eI E, 296, .inl c.1),
  fun c => .inr (5, [.ref (eA E 43)]),
  fun c => .inl (eI E, 313, .inl c.1),
  fun c => .inr (5, [.ref (eA E 45)]),
  fun c => .inl (eI E, 40, .inl c.1),
  fun c => .inr (5, [.ref (eA E 47)]),
  fun c => .inl (eI E, 13, .inl c.1),
  fun c => .inr (5, [.ref (eA E 49)]),
  fun c => .inl (eI E, 156, .inl c.1),
  fun c => .inr (3, [.ref (eA E 10), .ref (eA E 39), .ref (eA E 51), .ref (eA E 53), .ref (eA E 55)]),
  fun c => .inr (5, [.ref (eA E 52)]),
  fun c => .inl (eI E, 20, .inl c.1),
  fun c => .inr (5, [.ref (eA E 54)]),
  fun c => .inl (eI E, 20, .inl c.1),
  fun c => .inr (5, [.ref (eA E 56)]),
  fun c => .inl (eI E, 400, .inl c.1),
  fun c => .inr (10, [.long c.2, .ref (eA E 58), .int (c.1 2), .ref (eA E 59), .ref (eA E 60), .ref (eA E 61), .int (c.1 6), .int (c.1 7), .int (c.1 8), .int (c.1 9), .int (c.1 10), .int (c.1 11), .ref (eA E 62), .ref (eA E 63), .ref (eA E 64), .ref (eA E 65), .ref (eA E 66), .ref (eA E 67), .ref (eA E 68), .ref (eA E 69)]),
  fun c => .inl (eB E, 200, .inl c.1),
  fun c => .inl (eI E, 2, .inl c.1),
  fun c => .inl (eI E, 8, .inl c.1),
  fun c => .inl (eI E, 2, .inl c.1),
  fun c => .inl (eI E, 3, .inl c.1),
  fun c => .inl (eI E, 108, .inl c.1),
  fun c => .inl (eZ E, 2, .inl c.1),
  fun c => .inl (eI E, 4, .inl c.1),
  fun c => .inl (eI E, 20, .inl c.1),
  fun c => .inl (eI E, 400, .inl c.1),
  fun c => .inl (eZ E, 20, .inl c.1),
  fun c => .inl (eI E, 8, .inl c.1)]
def sh (E : En) (k : Nat) (c : Mc) : va_E := (shL E).getD k (fun c => .inl (eI E, 0, .inl c.1)) c
def world (E : En) (S : Mem) : va_W := (List.range 70).map (fun k => (eA E k, sh E k (S k)))
def inW (E : En) : Nat → Prop := fun q => ∃ k, k < 70 ∧ q = eA E k
theorem world_get (E : En) (S : Mem) {k : Nat} (h : k < 70) : (world E S)[k]? = some (eA E k, sh E k (S k)) := by
  unfold world
  rw [List.getElem?_map, List.getElem?_range h]
  rfl
theorem world_set (E : En) {S S' : Mem} {k : Nat} (h : k < 70) (ho : ∀ a, a ≠ k → S' a = S a) : (world E S).set k (eA E k, sh E k (S' k)) = world E S' := by
  apply List.ext_getElem?
  intro i
  rw [List.getElem?_set]
  by_cases hi : k = i
  · subst hi
    have hl : k < (world E S).length := by simp [world, h]
    rw [if_pos rfl, if_pos hl, world_get E S' h]
  · rw [if_neg hi]
    by_cases h7 : i < 70
    · rw [world_get E S h7, world_get E S' h7, ho i (fun e => hi e.symm)]
    · have h8 : ∀ R : Mem, (world E R)[i]? = none := fun R => by simp [world]; omega
      rw [h8, h8]
theorem world_in (E : En) (S : Mem) {A : Nat → Prop} (h : va_D A (world E S)) : ∀ q, inW E q → A q := by
  rintro q ⟨k, hk, rfl⟩
  exact h.2 k _ (world_get E S hk)
theorem world_D (E : En) (S S' : Mem) {A B : Nat → Prop} (h : va_D A (world E S)) (hB : ∀ q, inW E q → B q) : va_D B (world E S') := by
  have key : ∀ (R : Mem) (i : Nat) (p : Nat × va_E), (world E R)[i]? = some p → i < 70 ∧ p.1 = eA E i := by
    intro R i p hp
    have hl : i < 70 := by
      have := (List.getElem?_eq_some_iff.mp hp).1
      simpa [world] using this
    rw [world_get E R hl] at hp
    exact ⟨hl, by rw [← Option.some.inj hp]⟩
  refine ⟨fun i j p q hp hq e => ?_, fun k q hk => ?_⟩
  · obtain ⟨hi, e1⟩ := key S' i p hp
    obtain ⟨hj, e2⟩ := key S' j q hq
    exact h.1 i j _ _ (world_get E S hi) (world_get E S hj) (by show eA E i = eA E j; rw [← e1, ← e2, e])
  · obtain ⟨hi, e1⟩ := key S' k q hk
    exact hB _ ⟨k, hi, e1⟩
/-- memory: read, write -/
def wr (S : Mem) (k j : Nat) (x : Int32) : Mem := fun a => cond (Nat.beq a k) (upd (S k).1 j x, (S k).2) (S a)
def wrL (S : Mem) (k : Nat) (x : Int64) : Mem := fun a => cond (Nat.beq a k) ((S k).1, x) (S a)
theorem beq_ne {a k : Nat} (h : a ≠ k) : Nat.beq a k = false := by
  cases hq : Nat.beq a k
  · rfl
  · exact absurd (Nat.eq_of_beq_eq_true hq) h
theorem wr_at (S : Mem) (k j : Nat) (x : Int32) : wr S k j x k = (upd (S k).1 j x, (S k).2) := by simp [wr]
theorem wr_ne (S : Mem) (k j : Nat) (x : Int32) {a : Nat} (h : a ≠ k) : wr S k j x a = S a := by simp [wr, beq_ne h]
theorem wrL_at (S : Mem) (k : Nat) (x : Int64) : wrL S k x k = ((S k).1, x) := by simp [wrL]
theorem wrL_ne (S : Mem) (k : Nat) (x : Int64) {a : Nat} (h : a ≠ k) : wrL S k x a = S a := by simp [wrL, beq_ne h]
/-- names, calls, loops of the printed functions -/
def lt_ {α β : Type} (a : α) (k : α → β) : β := k a
def bnd {α β γ : Type} (o : Option (α × β)) (k : α → β → Option γ) : Option γ := match o with | none => none | some r => k r.1 r.2
def bnp {α γ : Type} (o : Option α) (k : α → Option γ) : Option γ := match o with | none => none | some r => k r
def lp {σ ρ : Type} : Nat → (σ → Option (σ ⊕ ρ)) → σ → Option ρ
  | 0, _, _ => none
  | n + 1, f, s => match f s with | none => none | some (.inl t) => lp n f t | some (.inr r) => some r
theorem bnd_some {α β γ : Type} {o : Option (α × β)} {k : α → β → Option γ} {r : γ} (h : bnd o k = some r) : ∃ a b, o = some (a, b) ∧ k a b = some r := by
  cases o with
  | none => cases h
  | some x => exact ⟨x.1, x.2, rfl, h⟩
theorem bnp_some {α γ : Type} {o : Option α} {k : α → Option γ} {r : γ} (h : bnp o k = some r) : ∃ a, o = some a ∧ k a = some r := by
  cases o with
  | none => cases h
  | some x => exact ⟨x, rfl, h⟩
theorem lp_rule {σ ρ : Type} {f : σ → Option (σ ⊕ ρ)} {Jh : σ → Prop} {C : ρ → Prop} (hb : ∀ s o, f s = some o → Sum.elim Jh C o → Jh s) : ∀ (n : Nat) (s : σ) (r : ρ), lp n f s = some r → C r → Jh s := by
  intro n
  induction n with
  | zero => intro s r h; cases h
  | succ n ih =>
    intro s r h hC
    unfold lp at h
    cases hf : f s with
    | none => rw [hf] at h; cases h
    | some o =>
      rw [hf] at h
      cases o with
      | inl t => exact hb s _ hf (ih t r h hC)
      | inr q => cases h; exact hb s _ hf hC
/-- what holds besides the world: the literals, COMPACT_STRINGS, the link between nest mates -/
def Str (E : En) (A : Nat → Prop) (U : State) (H : Heap) : Prop := va_Z "java/lang/String" "COMPACT_STRINGS" "Z" (.int 1) A U H ∧ vk_S 3 [5, 3, 7] [[116, 104, 105, 110, 103], [111, 119, 110], [102, 105, 103, 117, 114, 101, 115]] (eK E) (eV E) A U H ∧ va_Zq "jdk/internal/util/Preconditions" "SIOOBE_FORMATTER" "Ljava/util/function/BiFunction;" A U H
def Lit (E : En) (U : State) : Prop := vk_R "SelfScale$Reader" 106 "thing" (eK E 0) U ∧ vk_R "SelfScale$Reader" 112 "own" (eK E 1) U ∧ vk_R "SelfScale$Reader" 114 "figures" (eK E 2) U ∧ va_Nw (.methodLinkNest RX4 66 yX9_isBetween RX9) U
theorem Str.moved {E : En} {A : Nat → Prop} {u U : State} {H : Heap} (hvm : u.vm.Alike U.vm) (h : Str E A u H) : Str E A U H := ⟨va_Z.moved hvm h.1, vk_S.moved hvm h.2.1, va_Zq.moved hvm h.2.2⟩
theorem Str.kept {E : En} {A : Nat → Prop} {U : State} {H H1 : Heap} (h : Str E A U H) (hq : ∀ a : Nat, a < H.size → ¬ A a → H1[a]? = H[a]?) : Str E A U H1 := ⟨va_Z.kept h.1 hq, vk_S.kept h.2.1 hq, va_Zq.kept h.2.2 hq⟩
theorem Str.narrow {E : En} {A B : Nat → Prop} {U : State} {H : Heap} (h : Str E A U H) (hAB : ∀ q, B q → A q) : Str E B U H := ⟨va_Z.narrow h.1 hAB, vk_S.narrow h.2.1 hAB, va_Zq.narrow h.2.2 hAB⟩
theorem Lit.warm {E : En} {s U : State} (hW : s.WarmedH U.vm) (h : Lit E s) : Lit E U := ⟨h.1.warm hW, h.2.1.warm hW, h.2.2.1.warm hW, va_Nw.warmM hW h.2.2.2⟩
theorem Lit.same {E : En} {u U : State} (hv : U.vm = u.vm) (h : Lit E u) : Lit E U := ⟨h.1.same hv, h.2.1.same hv, h.2.2.1.same hv, va_Nw.same rfl hv.symm h.2.2.2⟩
def Hd (E : En) (S : Mem) (U : State) : Prop := va_P E.2.1 classes (world E S) U.heap ∧ va_K E.2.1 classes (en_ty E) U ∧ va_D (inW E) (world E S) ∧ Str E (inW E) U U.heap ∧ Lit E U
/-- a contract: with these arguments, over this memory, it answers ov and leaves S'; the world's cells alone are written, none is made -/
def CT (E : En) (y : MethodName) (cc : ByteArray) (nL : Nat) (ret : Option FieldType) (d : Nat) (args : List Value) (S : Mem) (ov : Option Value) (S' : Mem) : Prop :=
  Met E.1 y (Cond.code y cc nL ret :: BIG) { frames := d, cells := 0, slots := 0, locals := 32 * d } (va_Pc args (Hd E S)) (fun _ st oc t => oc = .returned ov ∧ Hd E S' t ∧ va_F (inW E) st t) 0 0 (inW E)
/-- the machine at a method's body: p l e R s m args below meth c nL A cells slots -/
abbrev Cx : Type := Program × Launch × Env × Room × State × MethodId × Array Value × List Frame × Method × Code × Nat × (Nat → Prop) × Nat × Nat
def J (E : En) (X : Cx) (Q : State → Prop) (S : Mem) (pc : Nat) (lv : List (Nat × Value)) (st : List Value) : Prop := match X with
  | (p, l, e, R, s, m, args, below, meth, c, nL, A, cells, slots) => ∀ (H : Heap) (locs : List Loc) (ls : Array Slot), va_P E.2.1 classes (world E S) H → va_D A (world E S) → va_S A s.heap H locs → lv_has ls nL lv → W p l e R s m args below meth c H locs cells slots Q (F0 m pc ls st)
def Fx (E : En) (X : Cx) (cc : ByteArray) (own : String) (nL : Nat) (ret : Option FieldType) (d : Nat) : Prop := match X with
  | (p, l, e, R, s, m, args, below, meth, c, n0, A, cells, slots) => p.tables.exec = Jvm.exec ∧ c.code = cc ∧ c.maxLocals = nL ∧ n0 = nL ∧ s.vm.findClass own = some m.cls ∧ (∀ w ∈ BIG, w.before args s = true) ∧ va_K E.2.1 classes (en_ty E) s ∧ Str E A s s.heap ∧ Lit E s ∧ meth.sig.returnType = ret ∧ meth.locks = false ∧ l = E.1 ∧ d ≤ R.frames ∧ 32 * d ≤ R.locals ∧ cells ≤ R.cells ∧ slots ≤ R.slots
def RQ (E : En) (X : Cx) (ov : Option Value) (S' : Mem) : State → Prop := match X with
  | (p, l, e, R, s, m, args, below, meth, c, nL, A, cells, slots) => MQ below (fun _ st oc t => oc = .returned ov ∧ Hd E S' t ∧ va_F A st t) args s cells slots A
theorem goodBIG {x y : MethodName} {cx cy : ByteArray} {nx ny : Nat} {rx ry : Option FieldType} (h : Cond.code y cy ny ry ∈ BIG) : GoodIn (Cond.code x cx nx rx :: BIG) (Cond.code y cy ny ry :: BIG) := by
  intro w hw
  have hb : w ∈ BIG := by
    rcases List.mem_cons.mp hw with e | e
    · rw [e]; exact h
    · exact e
  exact ⟨List.mem_cons_of_mem _ hb, good_of_word (big_good w hb)⟩
theorem goodBIG0 {y : MethodName} {cy : ByteArray} {ny : Nat} {ry : Option FieldType} (h : Cond.code y cy ny ry ∈ BIG) : GoodIn BIG (Cond.code y cy ny ry :: BIG) := by
  intro w hw
  have hb : w ∈ BIG := by
    rcases List.mem_cons.mp hw with e | e
    · rw [e]; exact h
    · exact e
  exact ⟨hb, good_of_word (big_good w hb)⟩
set_option maxHeartbeats 1000000 in
theorem CT_of {E : En} {y : MethodName} {cc : ByteArray} {nL : Nat} {ret : Option FieldType} {d : Nat} {args : List Value} {S S' : Mem} {ov : Option Value} (hy : plainName y.cls = true) (hlen : (lg_sl args).length ≤ nL)
    (body : ∀ X : Cx, Fx E X cc y.cls nL ret d → J E X (RQ E X ov S') S 0 (lv_args 0 args) []) : CT E y cc nL ret d args S ov S' := by
  refine Met.ofW (cc := cc) (maxL := nL) (ret := ret) hy rfl ?_
  intro p e s m args0 below meth c s₁ B hml hv
  obtain ⟨rfl, hP, hK, hD, hStr, hLit⟩ := hv
  have hts := atoms_spec (ws := Cond.code y cc nL ret :: BIG) B.pre
  have hown : s.vm.findClass y.cls = some m.cls := findClass_of_methodNamed B.named
  have hl := lv_entry args (n := nL) hlen
  rw [lg_entry_eq]
  generalize (lg_sl args ++ List.replicate (nL - (lg_sl args).length) Slot.unset).toArray = ls at hl ⊢
  exact body (p, E.1, e, { frames := d, cells := 0, slots := 0, locals := 32 * d }, s, m, args.toArray, below, meth, c, nL, inW E, 0, 0) ⟨B.exec, B.bytes, hml, rfl, hown, fun w hw => hts w (List.mem_cons_of_mem _ hw), hK, hStr, hLit, B.returns, B.notSynchronized, rfl, Nat.le_refl _, Nat.le_refl _, Nat.le_refl _, Nat.le_refl _⟩ s.heap [] ls hP hD va_S.rf hl
theorem s_0 (E : En) (c : Mc) : sh E 0 c = .inr (9, [.ref (eA E 1), .ref (eA E 4), .ref (eA E 10), .ref (eA E 15), .ref (eA E 22), .ref (eA E 30), .ref (eA E 38), .ref (eA E 39), .ref (eA E 50)]) := rfl
theorem s_1 (E : En) (c : Mc) : sh E 1 c = .inr (7, [.ref (eA E 2), .int (c.1 1)]) := rfl
theorem s_2 (E : En) (c : Mc) : sh E 2 c = .inr (5, [.ref (eA E 3)]) := rfl
theorem s_3 (E : En) (c : Mc) : sh E 3 c = .inl (eI E, 200, .inl c.1) := rfl
theorem s_4 (E : En) (c : Mc) : sh E 4 c = .inr (4, [.ref (eA E 1), .ref (eA E 5), .int (c.1 2), .int (c.1 3), .int (c.1 4), .int (c.1 5), .int (c.1 6), .int (c.1 7)]) := rfl
theorem s_5 (E : En) (c : Mc) : sh E 5 c = .inr (6, [.ref (eA E 6), .ref (eA E 8), .int (c.1 2), .int (c.1 3), .int (c.1 4)]) := rfl
theorem s_6 (E : En) (c : Mc) : sh E 6 c = .inr (5, [.ref (eA E 7)]) := rfl
theorem s_7 (E : En) (c : Mc) : sh E 7 c = .inl (eI E, 3, .inl c.1) := rfl
theorem s_8 (E : En) (c : Mc) : sh E 8 c = .inr (5, [.ref (eA E 9)]) := rfl
theorem s_9 (E : En) (c : Mc) : sh E 9 c = .inl (eI E, 8, .inl c.1) := rfl
theorem s_10 (E : En) (c : Mc) : sh E 10 c = .inr (6, [.ref (eA E 11), .ref (eA E 13), .int (c.1 2), .int (c.1 3), .int (c.1 4)]) := rfl
theorem s_11 (E : En) (c : Mc) : sh E 11 c = .inr (5, [.ref (eA E 12)]) := rfl
theorem s_12 (E : En) (c : Mc) : sh E 12 c = .inl (eI E, 3, .inl c.1) := rfl
theorem s_13 (E : En) (c : Mc) : sh E 13 c = .inr (5, [.ref (eA E 14)]) := rfl
theorem s_14 (E : En) (c : Mc) : sh E 14 c = .inl (eI E, 8, .inl c.1) := rfl
theorem s_15 (E : En) (c : Mc) : sh E 15 c = .inr (0, [.ref (eA E 16), .ref (eA E 18), .ref (eA E 20), .int (c.1 3)]) := rfl
theorem s_16 (E : En) (c : Mc) : sh E 16 c = .inr (5, [.ref (eA E 17)]) := rfl
theorem s_17 (E : En) (c : Mc) : sh E 17 c = .inl (eI E, 12, .inl c.1) := rfl
theorem s_18 (E : En) (c : Mc) : sh E 18 c = .inr (5, [.ref (eA E 19)]) := rfl
theorem s_19 (E : En) (c : Mc) : sh E 19 c = .inl (eI E, 12, .inl c.1) := rfl
theorem s_20 (E : En) (c : Mc) : sh E 20 c = .inr (5, [.ref (eA E 21)]) := rfl
theorem s_21 (E : En) (c : Mc) : sh E 21 c = .inl (eI E, 12, .inl c.1) := rfl
theorem s_22 (E : En) (c : Mc) : sh E 22 c = .inr (1, [.ref (eA E 23), .int (c.1 1)]) := rfl
theorem s_23 (E : En) (c : Mc) : sh E 23 c = .inr (0, [.ref (eA E 24), .ref (eA E 26), .ref (eA E 28), .int (c.1 3)]) := rfl
theorem s_24 (E : En) (c : Mc) : sh E 24 c = .inr (5, [.ref (eA E 25)]) := rfl
theorem s_25 (E : En) (c : Mc) : sh E 25 c = .inl (eI E, 12, .inl c.1) := rfl
theorem s_26 (E : En) (c : Mc) : sh E 26 c = .inr (5, [.ref (eA E 27)]) := rfl
theorem s_27 (E : En) (c : Mc) : sh E 27 c = .inl (eI E, 12, .inl c.1) := rfl
theorem s_28 (E : En) (c : Mc) : sh E 28 c = .inr (5, [.ref (eA E 29)]) := rfl
theorem s_29 (E : En) (c : Mc) : sh E 29 c = .inl (eI E, 12, .inl c.1) := rfl
theorem s_30 (E : En) (c : Mc) : sh E 30 c = .inr (1, [.ref (eA E 31), .int (c.1 1)]) := rfl
theorem s_31 (E : En) (c : Mc) : sh E 31 c = .inr (0, [.ref (eA E 32), .ref (eA E 34), .ref (eA E 36), .int (c.1 3)]) := rfl
theorem s_32 (E : En) (c : Mc) : sh E 32 c = .inr (5, [.ref (eA E 33)]) := rfl
theorem s_33 (E : En) (c : Mc) : sh E 33 c = .inl (eI E, 12, .inl c.1) := rfl
theorem s_34 (E : En) (c : Mc) : sh E 34 c = .inr (5, [.ref (eA E 35)]) := rfl
theorem s_35 (E : En) (c : Mc) : sh E 35 c = .inl (eI E, 12, .inl c.1) := rfl
theorem s_36 (E : En) (c : Mc) : sh E 36 c = .inr (5, [.ref (eA E 37)]) := rfl
theorem s_37 (E : En) (c : Mc) : sh E 37 c = .inl (eI E, 12, .inl c.1) := rfl
theorem s_38 (E : En) (c : Mc) : sh E 38 c = .inr (2, [.ref (eA E 10), .ref (eA E 15), .long c.2]) := rfl
theorem s_39 (E : En) (c : Mc) : sh E 39 c = .inr (8, [.ref (eA E 10), .ref (eA E 15), .ref (eA E 40), .ref (eA E 42), .ref (eA E 44), .ref (eA E 46), .ref (eA E 48), .int (c.1 7), .int (c.1 8), .int (c.1 9), .int (c.1 10)]) := rfl
theorem s_40 (E : En) (c : Mc) : sh E 40 c = .inr (5, [.ref (eA E 41)]) := rfl
theorem s_41 (E : En) (c : Mc) : sh E 41 c = .inl (eI E, 296, .inl c.1) := rfl
theorem s_42 (E : En) (c : Mc) : sh E 42 c = .inr (5, [.ref (eA E 43)]) := rfl
theorem s_43 (E : En) (c : Mc) : sh E 43 c = .inl (eI E, 313, .inl c.1) := rfl
theorem s_44 (E : En) (c : Mc) : sh E 44 c = .inr (5, [.ref (eA E 45)]) := rfl
theorem s_45 (E : En) (c : Mc) : sh E 45 c = .inl (eI E, 40, .inl c.1) := rfl
theorem s_46 (E : En) (c : Mc) : sh E 46 c = .inr (5, [.ref (eA E 47)]) := rfl
theorem s_47 (E : En) (c : Mc) : sh E 47 c = .inl (eI E, 13, .inl c.1) := rfl
theorem s_48 (E : En) (c : Mc) : sh E 48 c = .inr (5, [.ref (eA E 49)]) := rfl
theorem s_49 (E : En) (c : Mc) : sh E 49 c = .inl (eI E, 156, .inl c.1) := rfl
theorem s_50 (E : En) (c : Mc) : sh E 50 c = .inr (3, [.ref (eA E 10), .ref (eA E 39), .ref (eA E 51), .ref (eA E 53), .ref (eA E 55)]) := rfl
theorem s_51 (E : En) (c : Mc) : sh E 51 c = .inr (5, [.ref (eA E 52)]) := rfl
theorem s_52 (E : En) (c : Mc) : sh E 52 c = .inl (eI E, 20, .inl c.1) := rfl
theorem s_53 (E : En) (c : Mc) : sh E 53 c = .inr (5, [.ref (eA E 54)]) := rfl
theorem s_54 (E : En) (c : Mc) : sh E 54 c = .inl (eI E, 20, .inl c.1) := rfl
theorem s_55 (E : En) (c : Mc) : sh E 55 c = .inr (5, [.ref (eA E 56)]) := rfl
theorem s_56 (E : En) (c : Mc) : sh E 56 c = .inl (eI E, 400, .inl c.1) := rfl
theorem s_57 (E : En) (c : Mc) : sh E 57 c = .inr (10, [.long c.2, .ref (eA E 58), .int (c.1 2), .ref (eA E 59), .ref (eA E 60), .ref (eA E 61), .int (c.1 6), .int (c.1 7), .int (c.1 8), .int (c.1 9), .int (c.1 10), .int (c.1 11), .ref (eA E 62), .ref (eA E 63), .ref (eA E 64), .ref (eA E 65), .ref (eA E 66), .ref (eA E 67), .ref (eA E 68), .ref (eA E 69)]) := rfl
theorem s_58 (E : En) (c : Mc) : sh E 58 c = .inl (eB E, 200, .inl c.1) := rfl
theorem s_59 (E : En) (c : Mc) : sh E 59 c = .inl (eI E, 2, .inl c.1) := rfl
theorem s_60 (E : En) (c : Mc) : sh E 60 c = .inl (eI E, 8, .inl c.1) := rfl
theorem s_61 (E : En) (c : Mc) : sh E 61 c = .inl (eI E, 2, .inl c.1) := rfl
theorem s_62 (E : En) (c : Mc) : sh E 62 c = .inl (eI E, 3, .inl c.1) := rfl
theorem s_63 (E : En) (c : Mc) : sh E 63 c = .inl (eI E, 108, .inl c.1) := rfl
theorem s_64 (E : En) (c : Mc) : sh E 64 c = .inl (eZ E, 2, .inl c.1) := rfl
theorem s_65 (E : En) (c : Mc) : sh E 65 c = .inl (eI E, 4, .inl c.1) := rfl
theorem s_66 (E : En) (c : Mc) : sh E 66 c = .inl (eI E, 20, .inl c.1) := rfl
theorem s_67 (E : En) (c : Mc) : sh E 67 c = .inl (eI E, 400, .inl c.1) := rfl
theorem s_68 (E : En) (c : Mc) : sh E 68 c = .inl (eZ E, 20, .inl c.1) := rfl
theorem s_69 (E : En) (c : Mc) : sh E 69 c = .inl (eI E, 8, .inl c.1) := rfl
