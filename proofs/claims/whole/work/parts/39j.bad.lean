/-! FEWEST: WORLDS MET, AND WEIGHTS TORN -/
def bd (F j s t : Nat) (A : Nat → Prop) (v : Nat) : Prop := ∃ x y, A x ∧ A y ∧ ld x s % F = v ∧ ld y s % F = v ∧ ld x t % F = ld y t % F ∧ dg x j ≠ dg y j
/-- a cell of what was seen -/
def cl (F j s t : Nat) (A : Nat → Prop) (e : Nat → Int32) (v r : Nat) (c : Int32) : Prop := (c = 0 ∧ ∀ x, A x → ld x s % F = v → ¬ ld x t % F = r) ∨ ∃ w, w < 10 ∧ c = e w ∧ (∃ x, A x ∧ ld x s % F = v ∧ ld x t % F = r ∧ dg x j = w) ∧ ∀ x, A x → ld x s % F = v → ld x t % F = r → dg x j = w
def ad (A : Nat → Prop) (z : Nat) : Nat → Prop := fun x => A x ∨ x = z
theorem bd_sub {F j s t v : Nat} {A A' : Nat → Prop} (h : ∀ x, A x → A' x) (hb : bd F j s t A v) : bd F j s t A' v := by
  obtain ⟨x, y, hx, hy, h'⟩ := hb
  exact ⟨x, y, h x hx, h y hy, h'⟩
theorem bd_lt {F j s t v : Nat} {A : Nat → Prop} (hF : 0 < F) (hb : bd F j s t A v) : v < F := by
  obtain ⟨x, y, hx, hy, h1, -⟩ := hb
  rw [← h1]
  exact Nat.mod_lt _ hF
theorem bd_oth {F j s t v z : Nat} {A : Nat → Prop} (h : v ≠ ld z s % F) : bd F j s t (ad A z) v ↔ bd F j s t A v := by
  constructor
  · rintro ⟨x, y, hx, hy, h1, h2, h3⟩
    refine ⟨x, y, ?_, ?_, h1, h2, h3⟩
    · rcases hx with hx | hx
      · exact hx
      · exact absurd (by rw [← h1, hx]) h
    · rcases hy with hy | hy
      · exact hy
      · exact absurd (by rw [← h2, hy]) h
  · exact bd_sub (fun x hx => Or.inl hx)
theorem bd_ok {F j s t v z : Nat} {A : Nat → Prop} (h : ∀ x, A x → ld x s % F = ld z s % F → ld x t % F = ld z t % F → dg x j = dg z j) : bd F j s t (ad A z) v ↔ bd F j s t A v := by
  constructor
  · rintro ⟨x, y, hx, hy, h1, h2, h3, h4⟩
    rcases hx with hx | hx
    · rcases hy with hy | hy
      · exact ⟨x, y, hx, hy, h1, h2, h3, h4⟩
      · rw [hy] at h2 h3 h4
        exact absurd (h x hx (h1.trans h2.symm) h3) h4
    · rcases hy with hy | hy
      · rw [hx] at h1 h3 h4
        exact absurd (h y hy (h2.trans h1.symm) h3.symm).symm h4
      · rw [hx, hy] at h4
        exact absurd rfl h4
  · exact bd_sub (fun x hx => Or.inl hx)
theorem cl_oth {F j s t v r z : Nat} {A : Nat → Prop} {e : Nat → Int32} {c : Int32} (hn : ¬ (v = ld z s % F ∧ r = ld z t % F)) (h : cl F j s t A e v r c) : cl F j s t (ad A z) e v r c := by
  have hz : ∀ x, ad A z x → ld x s % F = v → ld x t % F = r → A x := by
    intro x hx h1 h2
    rcases hx with hx | hx
    · exact hx
    · rw [hx] at h1 h2
      exact absurd ⟨h1.symm, h2.symm⟩ hn
  rcases h with ⟨h1, h2⟩ | ⟨w, h1, h2, ⟨x, h3, h4⟩, h5⟩
  · exact Or.inl ⟨h1, fun x hx a b => h2 x (hz x hx a b) a b⟩
  · exact Or.inr ⟨w, h1, h2, ⟨x, Or.inl h3, h4⟩, fun x hx a b => h5 x (hz x hx a b) a b⟩
theorem cl_put {F j s t z : Nat} {A : Nat → Prop} {e : Nat → Int32} (hd : dg z j < 10) (h : ∀ x, A x → ld x s % F = ld z s % F → ld x t % F = ld z t % F → dg x j = dg z j) : cl F j s t (ad A z) e (ld z s % F) (ld z t % F) (e (dg z j)) := by
  refine Or.inr ⟨dg z j, hd, rfl, ⟨z, Or.inr rfl, rfl, rfl, rfl⟩, fun x hx h1 h2 => ?_⟩
  rcases hx with hx | hx
  · exact h x hx h1 h2
  · rw [hx]
/-- what a cell tells of one more world -/
theorem cl_3 {F j s t z : Nat} {A : Nat → Prop} {e : Nat → Int32} {c : Int32} (h : cl F j s t A e (ld z s % F) (ld z t % F) c) : (c = 0 ∧ ∀ x, A x → ld x s % F = ld z s % F → ld x t % F = ld z t % F → dg x j = dg z j) ∨ (∃ w, w < 10 ∧ c = e w ∧ w = dg z j ∧ ∀ x, A x → ld x s % F = ld z s % F → ld x t % F = ld z t % F → dg x j = dg z j) ∨ ∃ w, w < 10 ∧ c = e w ∧ w ≠ dg z j ∧ bd F j s t (ad A z) (ld z s % F) := by
  rcases h with ⟨h1, h2⟩ | ⟨w, h1, h2, ⟨x, h3, h4, h5, h6⟩, h7⟩
  · exact Or.inl ⟨h1, fun x hx a b => absurd b (h2 x hx a)⟩
  · by_cases e : w = dg z j
    · exact Or.inr (Or.inl ⟨w, h1, h2, e, fun x hx a b => (h7 x hx a b).trans e⟩)
    · exact Or.inr (Or.inr ⟨w, h1, h2, e, x, z, Or.inl h3, Or.inr rfl, h4, rfl, h5, by rw [h6]; exact e⟩)
/-- worlds met by the class, and by the model -/
def pA (T F : Nat) (b : Bk) (p : Nat) : Nat → Prop := fun x => x < p ∧ lf T F b x = true
def mA (T F : Nat) (b : Bk) (n : Nat) : Nat → Prop := fun x => ∃ c, c < n ∧ mis F b (ph T c) = 0 ∧ x = ph T c
theorem pA_0 {T F : Nat} {b : Bk} (x : Nat) : ¬ pA T F b 0 x := fun h => Nat.not_lt_zero x h.1
theorem mA_0 {T F : Nat} {b : Bk} (x : Nat) : ¬ mA T F b 0 x := fun h => by
  obtain ⟨c, hc, -⟩ := h
  exact Nat.not_lt_zero c hc
theorem bd_none {F j s t v : Nat} {A : Nat → Prop} (h : ∀ x, ¬ A x) : ¬ bd F j s t A v := by
  rintro ⟨x, y, hx, -⟩
  exact h x hx
theorem cl_none {F j s t v r : Nat} {A : Nat → Prop} {e : Nat → Int32} {c : Int32} (h : ∀ x, ¬ A x) (hc : c = 0) : cl F j s t A e v r c := Or.inl ⟨hc, fun x hx => absurd hx (h x)⟩
theorem pA_ad {T F p : Nat} {b : Bk} (hp : p ≤ 10000) (h : nx T F b p < 10000) : pA T F b (nx T F b p + 1) = ad (pA T F b p) (nx T F b p) := by
  have g := nx_ge (T := T) (F := F) (b := b) (p := p)
  have gy := nx_yes hp h
  have gn := fun y => nx_no (T := T) (F := F) (b := b) (p := p) (y := y)
  generalize nx T F b p = n at *
  funext x
  apply propext
  constructor
  · rintro ⟨h1, h2⟩
    by_cases c : x < p
    · exact Or.inl ⟨c, h2⟩
    · by_cases c2 : x < n
      · rw [gn x (by omega) c2] at h2
        cases h2
      · exact Or.inr (by omega)
  · rintro (⟨h1, h2⟩ | h1)
    · exact ⟨by omega, h2⟩
    · rw [h1]
      exact ⟨by omega, gy⟩
theorem pA_all {T F p : Nat} {b : Bk} (hp : p ≤ 10000) (h : fb_sm (gA T F b) p = fb_sm (gA T F b) 10000) : pA T F b p = pA T F b 10000 := by
  funext x
  apply propext
  constructor
  · exact fun h' => ⟨Nat.lt_of_lt_of_le h'.1 hp, h'.2⟩
  · rintro ⟨h1, h2⟩
    refine ⟨?_, h2⟩
    rcases Nat.lt_or_ge x p with c | c
    · exact c
    · rw [met_all hp h c h1] at h2
      cases h2
theorem pA_sub {T F p : Nat} {b : Bk} (hp : p ≤ 10000) : ∀ x, pA T F b p x → pA T F b 10000 x := fun _ h => ⟨Nat.lt_of_lt_of_le h.1 hp, h.2⟩
theorem mA_yes {T F c : Nat} {b : Bk} (hm : mis F b (ph T c) = 0) : mA T F b (c + 1) = ad (mA T F b c) (ph T c) := by
  funext x
  apply propext
  constructor
  · rintro ⟨k, h1, h2, h3⟩
    by_cases e : k = c
    · exact Or.inr (by rw [h3, e])
    · exact Or.inl ⟨k, by omega, h2, h3⟩
  · rintro (⟨k, h1, h2, h3⟩ | h)
    · exact ⟨k, by omega, h2, h3⟩
    · exact ⟨c, Nat.lt_succ_self c, hm, h⟩
theorem mA_no {T F c : Nat} {b : Bk} (hm : ¬ mis F b (ph T c) = 0) : mA T F b (c + 1) = mA T F b c := by
  funext x
  apply propext
  constructor
  · rintro ⟨k, h1, h2, h3⟩
    by_cases e : k = c
    · rw [e] at h2
      exact absurd h2 hm
    · exact ⟨k, by omega, h2, h3⟩
  · rintro ⟨k, h1, h2, h3⟩
    exact ⟨k, by omega, h2, h3⟩
theorem lf_v2 {T F x : Nat} {b : Bk} (h : lf T F b x = true) : vd T x = true := by
  unfold lf at h
  rw [Bool.and_eq_true] at h
  exact h.1
theorem mA_all {T F : Nat} {b : Bk} (hT : T ≤ 3) : mA T F b (nW T) = pA T F b 10000 := by
  funext x
  apply propext
  constructor
  · rintro ⟨c, h1, h2, h3⟩
    rw [h3]
    exact ⟨(ph_ps hT h1).1, (lf_ph hT h1).mpr h2⟩
  · rintro ⟨h1, h2⟩
    obtain ⟨k1, k2⟩ := ps_ph hT h1 (lf_v2 h2)
    exact ⟨ps T x, k1, by rw [k2]; exact lf_mis h2, k2.symm⟩
/-- bits taken away -/
theorem bt_nI (n : Nat) {i : Nat} (hi : i < 32) : bt (nI n) i = n.testBit i := by
  unfold bt
  show (BitVec.ofNat 32 n).getLsbD i = _
  rw [BitVec.getLsbD_ofNat, decide_eq_true hi, Bool.true_and]
def an (u v : Nat) : Nat := bsum (fun k => u.testBit k && !v.testBit k) 20
theorem an_lt {u v : Nat} : an u v < 2 ^ 20 := bsum_lt _ _
theorem b20 {u k : Nat} (hu : u < 2 ^ 20) (hk : ¬ k < 20) : u.testBit k = false := Nat.testBit_lt_two_pow (Nat.lt_of_lt_of_le hu (Nat.pow_le_pow_right (by decide) (by omega)))
theorem an_bit {u v : Nat} (hu : u < 2 ^ 20) (k : Nat) : (an u v).testBit k = (u.testBit k && !v.testBit k) := by
  unfold an
  rw [bsum_bit]
  by_cases h : k < 20
  · rw [decide_eq_true h, Bool.true_and]
  · rw [decide_eq_false h, Bool.false_and, b20 hu h, Bool.false_and]
theorem an_I {u v : Nat} (hu : u < 2 ^ 20) : nI u &&& (nI v ^^^ (-1)) = nI (an u v) := by
  apply b_ext
  intro i hi
  rw [b_and, b_xor, bt_nI u hi, bt_nI v hi, bt_nI _ hi, b_m1 i hi, an_bit hu, Bool.xor_true]
theorem all_I (u : Nat) : nI u &&& (-1) = nI u := by
  apply b_ext
  intro i hi
  rw [b_and, b_m1 i hi, Bool.and_true]
theorem p2_bit {i v : Nat} : (2 ^ i).testBit v = decide (v = i) := by
  by_cases e : v = i
  · rw [e, Nat.testBit_two_pow_self, decide_eq_true rfl]
  · rw [Nat.testBit_two_pow_of_ne (fun z => e z.symm), decide_eq_false e]
theorem popw : ∀ w, w < 10 → ∀ w', w' < 10 → pop (2 ^ w ||| 2 ^ w') = if w = w' then 1 else 2 := by decide +kernel
theorem popw0 : ∀ w, w < 10 → pop (0 ||| 2 ^ w) = 1 := by decide +kernel
/-- what the question answers -/
def s2 (T F j s : Nat) (A : Nat → Prop) : Prop := ∀ v, v < F → ∃ t, t < 2 ^ T ∧ ¬ bd F j s t A v
def kn (T F : Nat) (b : Bk) (j : Nat) : Prop := oW T F b j = 0 ∨ ∃ w, w < 10 ∧ oW T F b j = 2 ^ w
def P1 (T F : Nat) (b : Bk) (j : Nat) : Prop := ∃ s, s < 2 ^ T ∧ ∀ v, ¬ bd F j s s (pA T F b 10000) v
def P2 (T F : Nat) (b : Bk) (j : Nat) : Prop := ∃ s, s < 2 ^ T ∧ s2 T F j s (pA T F b 10000)
def fwR (T F : Nat) (b : Bk) (j : Nat) (r : Int32) : Prop := (kn T F b j ∧ r = 0) ∨ (¬ kn T F b j ∧ P1 T F b j ∧ r = 1) ∨ (¬ kn T F b j ∧ ¬ P1 T F b j ∧ P2 T F b j ∧ r = 2) ∨ (¬ kn T F b j ∧ ¬ P1 T F b j ∧ ¬ P2 T F b j ∧ r = -9)
theorem fwR_u {T F j : Nat} {b : Bk} {r r' : Int32} (h : fwR T F b j r) (h' : fwR T F b j r') : r = r' := by
  rcases h with ⟨a, e⟩ | ⟨a, c, e⟩ | ⟨a, c, d, e⟩ | ⟨a, c, d, e⟩ <;> rcases h' with ⟨a', e'⟩ | ⟨a', c', e'⟩ | ⟨a', c', d', e'⟩ | ⟨a', c', d', e'⟩ <;> first | contradiction | rw [e, e']
theorem oW_0 {T F j : Nat} {b : Bk} : oW T F b j = 0 ↔ fb_sm (gA T F b) 10000 = 0 := by
  have hfib := gA_fib (T := T) (F := F) (j := j) (b := b)
  have hbit : ∀ k, (oW T F b j).testBit k = (decide (k < 10) && decide (0 < fb_sm (gW T F b j k) 10000)) := fun k => bsum_bit _ k 10
  constructor
  · intro h
    rw [h] at hbit
    rw [← hfib]
    refine sm_none (fun k hk => ?_)
    have := hbit k
    rw [Nat.zero_testBit, decide_eq_true hk, Bool.true_and] at this
    have := of_decide_eq_false this.symm
    omega
  · intro h
    rw [h] at hfib
    have hz := fb_sm_zero hfib
    apply Nat.eq_of_testBit_eq
    intro k
    rw [hbit, Nat.zero_testBit]
    by_cases hk : k < 10
    · have := hz k hk
      rw [this, decide_eq_false (Nat.lt_irrefl 0), Bool.and_false]
    · rw [decide_eq_false hk, Bool.false_and]
