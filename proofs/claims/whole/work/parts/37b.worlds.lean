/-! WORLDS: WHAT THEY ARE -/
def vd (T x : Nat) : Bool := decide ((0 < T ↔ 1 ≤ x / 1000) ∧ (1 < T ↔ 1 ≤ x / 100 % 10) ∧ (2 < T ↔ 1 ≤ x / 10 % 10))
def dg (x i : Nat) : Nat := if i = 0 then x / 1000 else if i = 1 then x / 100 % 10 else if i = 2 then x / 10 % 10 else x % 10
def ld (x s : Nat) : Nat := x % 10 + bt2 s 0 * (x / 1000) + bt2 s 1 * (x / 100 % 10) + bt2 s 2 * (x / 10 % 10)
def lgl (F w u m : Nat) : Nat := if m % F = w then (if u = 1 then 2 else 0) else if (m + 1) % F = w then (if u = 0 then 2 else 1) else 2
def lgh (F : Nat) (l : Nat × Nat × Nat) (x : Nat) : Nat := lgl F l.2.1 l.2.2 (ld x l.1)
def mis (F : Nat) (b : Bk) (x : Nat) : Nat := bsum (fun k => decide (lgh F (b.2 k) x = 2)) b.1
def lau (F : Nat) (b : Bk) (x : Nat) : Nat := bsum (fun k => decide ((b.2 k).2.2 = 2 ∧ lgh F (b.2 k) x = 1)) b.1
def lf (T F : Nat) (b : Bk) (x : Nat) : Bool := vd T x && decide (mis F b x = 0)
theorem dg_lt {x i : Nat} (h : x < 10000) : dg x i < 10 := by
  unfold dg
  split
  · omega
  · split
    · omega
    · split <;> omega
theorem b2m {s i y : Nat} (h : y ≤ 9) : bt2 s i * y ≤ 9 := by
  have h1 := bt2_lt s i
  rcases (show bt2 s i = 0 ∨ bt2 s i = 1 by omega) with e | e <;> rw [e] <;> omega
theorem ld_le {x s : Nat} (h : x < 10000) : ld x s ≤ 36 := by
  have h0 := b2m (s := s) (i := 0) (y := x / 1000) (by omega)
  have h1 := b2m (s := s) (i := 1) (y := x / 100 % 10) (by omega)
  have h2 := b2m (s := s) (i := 2) (y := x / 10 % 10) (by omega)
  unfold ld
  omega
theorem lgl_lt (F w u m : Nat) : lgl F w u m < 3 := by
  unfold lgl
  split
  · split <;> decide
  · split
    · split <;> decide
    · decide
theorem mis_lt {F : Nat} {b : Bk} {x : Nat} (hb : b.1 ≤ 12) : mis F b x < 4096 :=
  Nat.lt_of_lt_of_le (bsum_lt _ _) (Nat.pow_le_pow_right (by decide) hb)
theorem lau_lt {F : Nat} {b : Bk} {x : Nat} (hb : b.1 ≤ 12) : lau F b x < 4096 :=
  Nat.lt_of_lt_of_le (bsum_lt _ _) (Nat.pow_le_pow_right (by decide) hb)
theorem mis_0 {F : Nat} {b : Bk} {x : Nat} : mis F b x = 0 ↔ ∀ k, k < b.1 → lgh F (b.2 k) x ≠ 2 := by
  constructor
  · intro h k hk e
    have := bsum_bit (fun k => decide (lgh F (b.2 k) x = 2)) k b.1
    unfold mis at h
    rw [h, Nat.zero_testBit, decide_eq_true hk, decide_eq_true e] at this
    cases this
  · intro h
    unfold mis bsum
    exact sm_none (fun k hk => if_neg (fun z => h k hk (of_decide_eq_true z)))
/-- the model's codes -/
def nW (T : Nat) : Nat := 10 * 9 ^ T
def ph (T c : Nat) : Nat := c % 10 + (if 0 < T then 1000 * (1 + c / 10 % 9) else 0) + (if 1 < T then 100 * (1 + c / 90 % 9) else 0) + (if 2 < T then 10 * (1 + c / 810 % 9) else 0)
def ps (T x : Nat) : Nat := x % 10 + (if 0 < T then 10 * (x / 1000 - 1) else 0) + (if 1 < T then 90 * (x / 100 % 10 - 1) else 0) + (if 2 < T then 810 * (x / 10 % 10 - 1) else 0)
theorem T3 {T : Nat} (h : T ≤ 3) : T = 0 ∨ T = 1 ∨ T = 2 ∨ T = 3 := by omega
theorem nW_le {T : Nat} (h : T ≤ 3) : nW T ≤ 7290 ∧ 10 ≤ nW T := by
  rcases T3 h with rfl | rfl | rfl | rfl <;> decide
theorem x_dec {x a b c o : Nat} (hb : b < 10) (hc : c < 10) (ho : o < 10) (hx : x = 1000 * a + 100 * b + 10 * c + o) : x / 1000 = a ∧ x / 100 % 10 = b ∧ x / 10 % 10 = c ∧ x % 10 = o := by
  subst hx
  refine ⟨?_, ?_, ?_, ?_⟩
  · omega
  · have : (1000 * a + 100 * b + 10 * c + o) / 100 = 10 * a + b := by omega
    rw [this]; omega
  · have : (1000 * a + 100 * b + 10 * c + o) / 10 = 100 * a + 10 * b + c := by omega
    rw [this]; omega
  · omega
theorem c_dec {x u v w o : Nat} (hu : u < 9) (hv : v < 9) (hw : w < 9) (ho : o < 10) (hx : x = 810 * w + 90 * v + 10 * u + o) : x % 10 = o ∧ x / 10 % 9 = u ∧ x / 90 % 9 = v ∧ x / 810 % 9 = w := by
  subst hx
  refine ⟨?_, ?_, ?_, ?_⟩
  · omega
  · have : (810 * w + 90 * v + 10 * u + o) / 10 = 81 * w + 9 * v + u := by omega
    rw [this]; omega
  · have : (810 * w + 90 * v + 10 * u + o) / 90 = 9 * w + v := by omega
    rw [this]; omega
  · have : (810 * w + 90 * v + 10 * u + o) / 810 = w := by omega
    rw [this]; omega
theorem c_ex {c T : Nat} (hT : T ≤ 3) (h : c < nW T) : ∃ u v w o, u < 9 ∧ v < 9 ∧ w < 9 ∧ o < 10 ∧ c = 810 * w + 90 * v + 10 * u + o ∧ (T ≤ 0 → u = 0) ∧ (T ≤ 1 → v = 0) ∧ (T ≤ 2 → w = 0) := by
  have hn : nW T ≤ 7290 ∧ (T ≤ 2 → nW T ≤ 810) ∧ (T ≤ 1 → nW T ≤ 90) ∧ (T ≤ 0 → nW T ≤ 10) := by
    rcases T3 hT with rfl | rfl | rfl | rfl <;> decide
  obtain ⟨h1, h2, h3, h4⟩ := hn
  have e1 : c = 10 * (c / 10) + c % 10 := (Nat.div_add_mod c 10).symm
  have e2 : c / 10 = 9 * (c / 10 / 9) + c / 10 % 9 := (Nat.div_add_mod _ 9).symm
  have e3 : c / 10 / 9 = 9 * (c / 10 / 9 / 9) + c / 10 / 9 % 9 := (Nat.div_add_mod _ 9).symm
  have b1 : c % 10 < 10 := Nat.mod_lt _ (by decide)
  have b2 : c / 10 % 9 < 9 := Nat.mod_lt _ (by decide)
  have b3 : c / 10 / 9 % 9 < 9 := Nat.mod_lt _ (by decide)
  refine ⟨c / 10 % 9, c / 10 / 9 % 9, c / 10 / 9 / 9, c % 10, b2, b3, ?_, b1, ?_, fun z => ?_, fun z => ?_, fun z => ?_⟩
  · generalize c / 10 / 9 / 9 = w at *
    generalize c / 10 / 9 % 9 = v at *
    generalize c / 10 / 9 = vv at *
    generalize c / 10 % 9 = u at *
    generalize c / 10 = uu at *
    generalize c % 10 = o at *
    omega
  · generalize c / 10 / 9 / 9 = w at *
    generalize c / 10 / 9 % 9 = v at *
    generalize c / 10 / 9 = vv at *
    generalize c / 10 % 9 = u at *
    generalize c / 10 = uu at *
    generalize c % 10 = o at *
    omega
  · have := h4 z
    generalize c / 10 / 9 / 9 = w at *
    generalize c / 10 / 9 % 9 = v at *
    generalize c / 10 / 9 = vv at *
    generalize c / 10 % 9 = u at *
    generalize c / 10 = uu at *
    generalize c % 10 = o at *
    omega
  · have := h3 z
    generalize c / 10 / 9 / 9 = w at *
    generalize c / 10 / 9 % 9 = v at *
    generalize c / 10 / 9 = vv at *
    generalize c / 10 % 9 = u at *
    generalize c / 10 = uu at *
    generalize c % 10 = o at *
    omega
  · have := h2 z
    generalize c / 10 / 9 / 9 = w at *
    generalize c / 10 / 9 % 9 = v at *
    generalize c / 10 / 9 = vv at *
    generalize c / 10 % 9 = u at *
    generalize c / 10 = uu at *
    generalize c % 10 = o at *
    omega
def s1 (b : Bool) (n : Nat) : Nat := if b = true then 1 + n else 0
theorem ph_dec {T c u v w o : Nat} (hu : u < 9) (hv : v < 9) (hw : w < 9) (ho : o < 10) (hc : c = 810 * w + 90 * v + 10 * u + o) : ph T c / 1000 = (if 0 < T then 1 + u else 0) ∧ ph T c / 100 % 10 = (if 1 < T then 1 + v else 0) ∧ ph T c / 10 % 10 = (if 2 < T then 1 + w else 0) ∧ ph T c % 10 = o := by
  obtain ⟨c1, c2, c3, c4⟩ := c_dec hu hv hw ho hc
  refine x_dec ?_ ?_ ho ?_
  · split <;> omega
  · split <;> omega
  · unfold ph
    rw [c1, c2, c3, c4]
    split <;> split <;> split <;> omega
theorem ph_dg {T c i : Nat} (hT : T ≤ 3) (hc : c < nW T) : dg (ph T c) 3 = c % 10 ∧ (i < T → dg (ph T c) i = 1 + c / 10 / 9 ^ i % 9) := by
  obtain ⟨u, v, w, o, hu, hv, hw, ho, e, -⟩ := c_ex hT hc
  obtain ⟨c1, c2, c3, c4⟩ := c_dec hu hv hw ho e
  obtain ⟨p1, p2, p3, p4⟩ := ph_dec (T := T) hu hv hw ho e
  unfold dg
  refine ⟨?_, fun hi => ?_⟩
  · rw [if_neg (by decide), if_neg (by decide), if_neg (by decide), p4, c1]
  · rcases (show i = 0 ∨ i = 1 ∨ i = 2 by omega) with rfl | rfl | rfl
    · rw [if_pos rfl, p1, if_pos hi, Nat.pow_zero, Nat.div_one, c2]
    · rw [if_neg (by decide), if_pos rfl, p2, if_pos hi, Nat.pow_one, Nat.div_div_eq_div_mul, c3]
    · rw [if_neg (by decide), if_neg (by decide), if_pos rfl, p3, if_pos hi, show 9 ^ 2 = 81 by decide, Nat.div_div_eq_div_mul, c4]
theorem ph_ps {T c : Nat} (hT : T ≤ 3) (hc : c < nW T) : ph T c < 10000 ∧ vd T (ph T c) = true ∧ ps T (ph T c) = c := by
  obtain ⟨u, v, w, o, hu, hv, hw, ho, e, e0, e1, e2⟩ := c_ex hT hc
  obtain ⟨p1, p2, p3, p4⟩ := ph_dec (T := T) hu hv hw ho e
  refine ⟨?_, ?_, ?_⟩
  · have : ph T c / 1000 < 10 := by rw [p1]; split <;> omega
    omega
  · unfold vd
    rw [decide_eq_true_eq, p1, p2, p3]
    refine ⟨?_, ?_, ?_⟩ <;> split <;> omega
  · unfold ps
    rw [p1, p2, p3, p4, e]
    by_cases t0 : 0 < T
    · by_cases t1 : 1 < T
      · by_cases t2 : 2 < T
        · simp only [t0, t1, t2, if_true]; omega
        · have := e2 (by omega)
          simp only [t0, t1, t2, if_true, if_false]; omega
      · have := e1 (by omega)
        have := e2 (by omega)
        have t2 : ¬ 2 < T := by omega
        simp only [t0, t1, t2, if_true, if_false]; omega
    · have := e0 (by omega)
      have := e1 (by omega)
      have := e2 (by omega)
      have t1 : ¬ 1 < T := by omega
      have t2 : ¬ 2 < T := by omega
      simp only [t0, t1, t2, if_false]; omega
theorem ps_ph {T x : Nat} (hT : T ≤ 3) (hx : x < 10000) (hv : vd T x = true) : ps T x < nW T ∧ ph T (ps T x) = x := by
  unfold vd at hv
  rw [decide_eq_true_eq] at hv
  have ex : x = 1000 * (x / 1000) + 100 * (x / 100 % 10) + 10 * (x / 10 % 10) + x % 10 := by
    have e1 : x = 10 * (x / 10) + x % 10 := (Nat.div_add_mod x 10).symm
    have e2 : x / 10 = 10 * (x / 10 / 10) + x / 10 % 10 := (Nat.div_add_mod _ 10).symm
    have e3 : x / 10 / 10 = 10 * (x / 10 / 10 / 10) + x / 10 / 10 % 10 := (Nat.div_add_mod _ 10).symm
    rw [show x / 10 / 10 / 10 = x / 1000 by rw [Nat.div_div_eq_div_mul, Nat.div_div_eq_div_mul], show x / 10 / 10 = x / 100 by rw [Nat.div_div_eq_div_mul]] at e3
    rw [show x / 10 / 10 = x / 100 by rw [Nat.div_div_eq_div_mul]] at e2
    generalize x / 1000 = a at *
    generalize x / 100 % 10 = b at *
    generalize x / 100 = bb at *
    generalize x / 10 % 10 = c at *
    generalize x / 10 = cc at *
    generalize x % 10 = o at *
    omega
  have d0 : x / 1000 < 10 := by omega
  have d1 : x / 100 % 10 < 10 := Nat.mod_lt _ (by decide)
  have d2 : x / 10 % 10 < 10 := Nat.mod_lt _ (by decide)
  have d3 : x % 10 < 10 := Nat.mod_lt _ (by decide)
  unfold ps
  generalize x / 1000 = a at *
  generalize x / 100 % 10 = b at *
  generalize x / 10 % 10 = c at *
  generalize x % 10 = o at *
  obtain ⟨h0, h1, h2⟩ := hv
  have key : ∀ u v w, u < 9 → v < 9 → w < 9 → (if 0 < T then 1 + u else 0) = a → (if 1 < T then 1 + v else 0) = b → (if 2 < T then 1 + w else 0) = c → ph T (810 * w + 90 * v + 10 * u + o) = x := by
    intro u v w hu hv hw ha hb hc
    obtain ⟨p1, p2, p3, p4⟩ := c_dec (x := 810 * w + 90 * v + 10 * u + o) hu hv hw d3 rfl
    unfold ph
    rw [p1, p2, p3, p4, ex, ← ha, ← hb, ← hc]
    split <;> split <;> split <;> omega
  by_cases t0 : 0 < T
  · have a1 := h0.mp t0
    by_cases t1 : 1 < T
    · have b1 := h1.mp t1
      by_cases t2 : 2 < T
      · have c1 := h2.mp t2
        have k := key (a - 1) (b - 1) (c - 1) (by omega) (by omega) (by omega) (by rw [if_pos t0]; omega) (by rw [if_pos t1]; omega) (by rw [if_pos t2]; omega)
        have hT3 : T = 3 := by omega
        simp only [t0, t1, t2, if_true]
        rw [show o + 10 * (a - 1) + 90 * (b - 1) + 810 * (c - 1) = 810 * (c - 1) + 90 * (b - 1) + 10 * (a - 1) + o by omega]
        refine ⟨?_, k⟩
        rw [hT3, show nW 3 = 7290 from rfl]; omega
      · have c0 : c = 0 := by omega
        have k := key (a - 1) (b - 1) 0 (by omega) (by omega) (by omega) (by rw [if_pos t0]; omega) (by rw [if_pos t1]; omega) (by rw [if_neg t2, c0])
        have hT3 : T = 2 := by omega
        simp only [t0, t1, t2, if_true, if_false]
        rw [show o + 10 * (a - 1) + 90 * (b - 1) + 0 = 810 * 0 + 90 * (b - 1) + 10 * (a - 1) + o by omega]
        refine ⟨?_, k⟩
        rw [hT3, show nW 2 = 810 from rfl]; omega
    · have t2 : ¬ 2 < T := by omega
      have c0 : c = 0 := by omega
      have b0 : b = 0 := by omega
      have k := key (a - 1) 0 0 (by omega) (by omega) (by omega) (by rw [if_pos t0]; omega) (by rw [if_neg t1, b0]) (by rw [if_neg t2, c0])
      have hT3 : T = 1 := by omega
      simp only [t0, t1, t2, if_true, if_false]
      rw [show o + 10 * (a - 1) + 0 + 0 = 810 * 0 + 90 * 0 + 10 * (a - 1) + o by omega]
      refine ⟨?_, k⟩
      rw [hT3, show nW 1 = 90 from rfl]; omega
  · have t1 : ¬ 1 < T := by omega
    have t2 : ¬ 2 < T := by omega
    have c0 : c = 0 := by omega
    have b0 : b = 0 := by omega
    have a0 : a = 0 := by omega
    have k := key 0 0 0 (by omega) (by omega) (by omega) (by rw [if_neg t0, a0]) (by rw [if_neg t1, b0]) (by rw [if_neg t2, c0])
    have hT3 : T = 0 := by omega
    simp only [t0, t1, t2, if_false]
    rw [show o + 0 + 0 + 0 = 810 * 0 + 90 * 0 + 10 * 0 + o by omega]
    refine ⟨?_, k⟩
    rw [hT3, show nW 0 = 10 from rfl]; omega
/-- the class's keys -/
def uk (K : Nat) : Nat := K % 1000 * 10 + K / 1000
def ky (x : Nat) : Nat := x % 10 * 1000 + x / 10
theorem uk_ky {K : Nat} (h : K < 10000) : uk K < 10000 ∧ ky (uk K) = K := by
  unfold uk ky; omega
theorem ky_uk {x : Nat} (h : x < 10000) : ky x < 10000 ∧ uk (ky x) = x := by
  unfold uk ky; omega
theorem sm_uk (g : Nat → Nat) : fb_sm (fun K => g (uk K)) 10000 = fb_sm g 10000 := by
  have h := sm_re (n := 10000) (m := 10000) (φ := uk) (ψ := ky) (V := fun _ => true) (fun c hc => ⟨(uk_ky hc).1, rfl, (uk_ky hc).2⟩) (fun x hx _ => ky_uk hx) g
  rw [h]
  exact fb_sm_cong (fun k _ => if_pos rfl)
theorem sm_ph {T : Nat} (hT : T ≤ 3) (g : Nat → Nat) : fb_sm (fun c => g (ph T c)) (nW T) = fb_sm (fun x => if vd T x = true then g x else 0) 10000 :=
  sm_re (n := nW T) (m := 10000) (φ := ph T) (ψ := ps T) (V := vd T) (fun c hc => ph_ps hT hc) (fun x hx hv => ps_ph hT hx hv) g
