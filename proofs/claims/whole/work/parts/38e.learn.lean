theorem TK_at {T F K K' : Nat} {b : Bk} {S : Mem} (k : TK T F b K S) (h : K' = K) : TK T F b K' S := by
  rw [h]; exact k
def XC (T F : Nat) (b : Bk) (S : Mem) : Prop := XSt T F b S ∧ ∀ s l, s < 8 → l < 37 → (S 41).1 (s * 37 + l) = nI (co F b b.1 s l)
theorem XC_fr {T F : Nat} {b : Bk} {S S' : Mem} (h : XC T F b S) (f : ∀ q, q ∉ [39, 43, 45, 47, 49] → S' q = S q) : XC T F b S' := by
  refine ⟨XSt_fl h.1 (fun q hq => f q (fun z => hq ?_)), fun s l hs hl => by rw [f 41 (by decide)]; exact h.2 s l hs hl⟩
  revert z
  simp only [List.mem_cons, List.not_mem_nil, or_false]
  omega
def lo (T i : Nat) : Nat := if i < T then 1 else 0
def hi (T i : Nat) : Nat := if i < T then 9 else 0
theorem X_least {T F i N : Nat} {b : Bk} {S : Mem} (h : XSt T F b S) (hG : GSt T F b) (hi3 : i < 3) : f8_leastOf N (nI i) S = some (nI (lo T i)) ∧ f8_mostOf N (nI i) S = some (nI (hi T i)) := by
  have hT := hG.1
  unfold f8_leastOf f8_mostOf f6_things_10 lo hi
  rw [bnp_ok, bnp_ok, h.1]
  by_cases c : i < T
  · rw [if_neg (nI_ge c (by omega)), if_pos c, if_neg (nI_ge c (by omega)), if_pos c]
    exact ⟨rfl, rfl⟩
  · rw [if_pos (nI_le (by omega) (by omega)), if_neg c, if_pos (nI_le (by omega) (by omega)), if_neg c]
    exact ⟨rfl, rfl⟩
theorem X_code {T F s l N : Nat} {b : Bk} {S : Mem} (h : XC T F b S) (hs : s < 8) (hl : l < 37) : f8_code N (nI s) (nI l) S = some (nI (co F b b.1 s l)) := by
  unfold f8_code
  rw [show (37 : Int32) = nI 37 from rfl, pk_mul, nI_add, f5_get_in (by omega) (by decide), bnp_ok]
  exact congrArg some (h.2 s l hs hl)
theorem uk_d {o a b c : Nat} (ho : o < 10) (ha : a < 10) (hb : b < 10) (hc : c < 10) : uk (o * 1000 + a * 100 + b * 10 + c) = a * 1000 + b * 100 + c * 10 + o := by
  unfold uk
  have e1 : (o * 1000 + a * 100 + b * 10 + c) % 1000 = a * 100 + b * 10 + c := by omega
  have e2 : (o * 1000 + a * 100 + b * 10 + c) / 1000 = o := by omega
  rw [e1, e2]
  omega
theorem vd_d {T o a b c : Nat} (ho : o < 10) (ha : a < 10) (hb : b < 10) (hc : c < 10) : vd T (uk (o * 1000 + a * 100 + b * 10 + c)) = decide ((0 < T ↔ 1 ≤ a) ∧ (1 < T ↔ 1 ≤ b) ∧ (2 < T ↔ 1 ≤ c)) := by
  obtain ⟨x1, x2, x3, x4⟩ := x_dec (x := uk (o * 1000 + a * 100 + b * 10 + c)) (a := a) hb hc ho (by rw [uk_d ho ha hb hc]; omega)
  unfold vd
  rw [x1, x2, x3]
theorem ld_d {x o a b c : Nat} (ho : o < 10) (ha : a < 10) (hb : b < 10) (hc : c < 10) (hx : x = a * 1000 + b * 100 + c * 10 + o) : ld x 0 = o ∧ ld x 1 = o + a ∧ ld x 2 = o + b ∧ ld x 3 = o + a + b ∧ ld x 4 = o + c ∧ ld x 5 = o + a + c ∧ ld x 6 = o + b + c ∧ ld x 7 = o + a + b + c := by
  obtain ⟨x1, x2, x3, x4⟩ := x_dec (x := x) (a := a) hb hc ho (by rw [hx]; omega)
  unfold ld
  rw [x1, x2, x3, x4]
  have b0 : bt2 0 0 = 0 ∧ bt2 0 1 = 0 ∧ bt2 0 2 = 0 := by decide
  have b1 : bt2 1 0 = 1 ∧ bt2 1 1 = 0 ∧ bt2 1 2 = 0 := by decide
  have b2 : bt2 2 0 = 0 ∧ bt2 2 1 = 1 ∧ bt2 2 2 = 0 := by decide
  have b3 : bt2 3 0 = 1 ∧ bt2 3 1 = 1 ∧ bt2 3 2 = 0 := by decide
  have b4 : bt2 4 0 = 0 ∧ bt2 4 1 = 0 ∧ bt2 4 2 = 1 := by decide
  have b5 : bt2 5 0 = 1 ∧ bt2 5 1 = 0 ∧ bt2 5 2 = 1 := by decide
  have b6 : bt2 6 0 = 0 ∧ bt2 6 1 = 1 ∧ bt2 6 2 = 1 := by decide
  have b7 : bt2 7 0 = 1 ∧ bt2 7 1 = 1 ∧ bt2 7 2 = 1 := by decide
  simp only [b0, b1, b2, b3, b4, b5, b6, b7, Nat.one_mul, Nat.zero_mul, Nat.add_zero, and_self]
/-- the loop of the third thing -/
theorem X_L84 {T F o a c N : Nat} {b : Bk} {S : Mem} (v2 v4 : Int32) (hG : GSt T F b) (hX : XC T F b S) (ho : o < 10) (ha : a < 10) (hc : c < 10) (h0 : 0 < T ↔ 1 ≤ a) (h1 : 1 < T ↔ 1 ≤ c) (h : TK T F b (o * 1000 + a * 100 + c * 10) S) (hN : 12 < N) : ∃ S', lp N (fun s : Int32 × Mem => f8_meetWorldsWith_L84 N (nI o) v2 (nI a) v4 (nI c) (nI (((co F b b.1 0 o ||| co F b b.1 1 (o + a)) ||| co F b b.1 2 (o + c)) ||| co F b b.1 3 (o + a + c))) s.1 s.2) (nI (lo T 2), S) = some S' ∧ TK T F b (o * 1000 + a * 100 + c * 10 + 10) S' ∧ ∀ q, q ∉ [39, 43, 45, 47, 49] → S' q = S q := by
  have hlo : lo T 2 ≤ 1 := by unfold lo; split <;> decide
  have hhi : hi T 2 ≤ 9 := by unfold hi; split <;> decide
  have hlh : lo T 2 ≤ hi T 2 := by unfold lo hi; split <;> decide
  have hstart : TK T F b (o * 1000 + a * 100 + c * 10 + lo T 2) S := by
    refine TK_skips (lo T 2) h (by omega) (fun j j1 j2 => ?_)
    have ej : j = o * 1000 + a * 100 + c * 10 + 0 := by omega
    rw [ej, vd_d ho ha hc (by decide)]
    have h2T : 2 < T := by
      unfold lo at j2
      by_cases z : 2 < T
      · exact z
      · rw [if_neg z] at j2; omega
    exact decide_eq_false (fun z => by have := z.2.2.mp h2T; omega)
  refine lp_inv (f := fun s : Int32 × Mem => f8_meetWorldsWith_L84 N (nI o) v2 (nI a) v4 (nI c) (nI (((co F b b.1 0 o ||| co F b b.1 1 (o + a)) ||| co F b b.1 2 (o + c)) ||| co F b b.1 3 (o + a + c))) s.1 s.2)
    (fun i s => s.1 = nI (lo T 2 + i) ∧ TK T F b (o * 1000 + a * 100 + c * 10 + (lo T 2 + i)) s.2 ∧ ∀ q, q ∉ [39, 43, 45, 47, 49] → s.2 q = S q)
    (fun S' => TK T F b (o * 1000 + a * 100 + c * 10 + 10) S' ∧ ∀ q, q ∉ [39, 43, 45, 47, 49] → S' q = S q) (hi T 2 + 1 - lo T 2) ?_ ?_ (by omega) ⟨rfl, hstart, fun _ _ => rfl⟩
  · rintro i ⟨y, U⟩ hil ⟨hy, u1, u2⟩
    dsimp only at hy u1 u2 ⊢
    subst hy
    obtain ⟨e, he⟩ : ∃ e, e = lo T 2 + i := ⟨_, rfl⟩
    rw [← he] at u1 ⊢
    have he9 : e ≤ hi T 2 := by omega
    have he10 : e < 10 := by omega
    have XU := XC_fr hX u2
    have hK : o * 1000 + a * 100 + c * 10 + e < 10000 := by omega
    have hv : vd T (uk (o * 1000 + a * 100 + c * 10 + e)) = true := by
      rw [vd_d ho ha hc he10]
      refine decide_eq_true ⟨h0, h1, ?_⟩
      unfold lo at he
      unfold hi at he9
      by_cases z : 2 < T
      · rw [if_pos z] at he
        exact ⟨fun _ => by omega, fun _ => z⟩
      · rw [if_neg z] at he9
        exact ⟨fun w => absurd w z, fun w => by omega⟩
    have ex := uk_d ho ha hc he10
    obtain ⟨d0, d1, d2, d3, d4, d5, d6, d7⟩ := ld_d ho ha hc he10 ex
    obtain ⟨S', k1, k2, k3⟩ := X_meet (N := N) hG u1 hK hv hN
    refine ⟨(nI (lo T 2 + (i + 1)), S'), ?_, rfl, TK_at k2 (by omega), fun q hq => (k3 q hq).trans (u2 q hq)⟩
    unfold f8_meetWorldsWith_L84
    have hw := or8w hG (uk (o * 1000 + a * 100 + c * 10 + e))
    rw [d0, d1, d2, d3, d4, d5, d6, d7] at hw
    have ml : f8_mostOf N (2 : Int32) U = some (nI (hi T 2)) := (X_least (i := 2) (N := N) XU.1 hG (by decide)).2
    have c4 : f8_code N (4 : Int32) (nI (o + e)) U = _ := X_code (s := 4) XU (by decide) (show o + e < 37 by omega)
    have c5 : f8_code N (5 : Int32) (nI (o + a + e)) U = _ := X_code (s := 5) XU (by decide) (show o + a + e < 37 by omega)
    have c6 : f8_code N (6 : Int32) (nI (o + c + e)) U = _ := X_code (s := 6) XU (by decide) (show o + c + e < 37 by omega)
    have c7 : f8_code N (7 : Int32) (nI (o + a + c + e)) U = _ := X_code (s := 7) XU (by decide) (show o + a + c + e < 37 by omega)
    rw [ml, bnp_ok, if_neg (nI_nlt he9 (by omega)), nI_add, c4, bnp_ok, nI_add, nI_add, c5, bnp_ok, nI_add, nI_add, c6, bnp_ok, nI_add, nI_add, c7, bnp_ok, lt_ok, fa_or, fa_or, fa_or, fa_or, hw, show (1000 : Int32) = nI 1000 from rfl, show (100 : Int32) = nI 100 from rfl, show (10 : Int32) = nI 10 from rfl, pk_mul, pk_mul, pk_mul, nI_add, nI_add, nI_add, ← ex, k1, bnd_ok, lt_ok, he, nI_1, Nat.add_assoc]
  · rintro ⟨y, U⟩ ⟨hy, u1, u2⟩
    dsimp only at hy u1 u2 ⊢
    subst hy
    have XU := XC_fr hX u2
    have ml : f8_mostOf N (2 : Int32) U = some (nI (hi T 2)) := (X_least (i := 2) (N := N) XU.1 hG (by decide)).2
    refine ⟨U, ?_, ?_, u2⟩
    · unfold f8_meetWorldsWith_L84
      rw [ml, bnp_ok, if_pos (nI_lt (by omega) (by omega))]
    · rw [show lo T 2 + (hi T 2 + 1 - lo T 2) = hi T 2 + 1 by omega] at u1
      have hs := TK_skips (9 - hi T 2) u1 (by omega) (fun j j1 j2 => ?_)
      · rw [show o * 1000 + a * 100 + c * 10 + (hi T 2 + 1) + (9 - hi T 2) = o * 1000 + a * 100 + c * 10 + 10 by omega] at hs
        exact hs
      · obtain ⟨e, he⟩ : ∃ e, j = o * 1000 + a * 100 + c * 10 + e := ⟨j - (o * 1000 + a * 100 + c * 10), by omega⟩
        rw [he, vd_d ho ha hc (by omega)]
        refine decide_eq_false (fun z => ?_)
        have hz : ¬ 2 < T := fun w => by
          unfold hi at j2 j1
          rw [if_pos w] at j1 j2
          omega
        exact hz (z.2.2.mpr (by omega))
/-- the loop of the second thing -/
theorem X_L41 {T F o a N : Nat} {b : Bk} {S : Mem} (v2 : Int32) (hG : GSt T F b) (hX : XC T F b S) (ho : o < 10) (ha : a < 10) (h0 : 0 < T ↔ 1 ≤ a) (h : TK T F b (o * 1000 + a * 100) S) (hN : 12 < N) : ∃ S', lp N (fun s : Int32 × Mem => f8_meetWorldsWith_L41 N (nI o) v2 (nI a) (nI (co F b b.1 0 o ||| co F b b.1 1 (o + a))) s.1 s.2) (nI (lo T 1), S) = some S' ∧ TK T F b (o * 1000 + a * 100 + 100) S' ∧ ∀ q, q ∉ [39, 43, 45, 47, 49] → S' q = S q := by
  have hlo : lo T 1 ≤ 1 := by unfold lo; split <;> decide
  have hhi : hi T 1 ≤ 9 := by unfold hi; split <;> decide
  have hlh : lo T 1 ≤ hi T 1 := by unfold lo hi; split <;> decide
  have hstart : TK T F b (o * 1000 + a * 100 + lo T 1 * 10) S := by
    refine TK_skips (lo T 1 * 10) h (by omega) (fun j j1 j2 => ?_)
    obtain ⟨e, he⟩ : ∃ e, j = o * 1000 + a * 100 + 0 * 10 + e := ⟨j - (o * 1000 + a * 100), by omega⟩
    rw [he, vd_d ho ha (by decide) (by omega)]
    have h2T : 1 < T := by
      unfold lo at j2
      by_cases z : 1 < T
      · exact z
      · rw [if_neg z] at j2; omega
    exact decide_eq_false (fun z => by have := z.2.1.mp h2T; omega)
  refine lp_inv (f := fun s : Int32 × Mem => f8_meetWorldsWith_L41 N (nI o) v2 (nI a) (nI (co F b b.1 0 o ||| co F b b.1 1 (o + a))) s.1 s.2)
    (fun i s => s.1 = nI (lo T 1 + i) ∧ TK T F b (o * 1000 + a * 100 + (lo T 1 + i) * 10) s.2 ∧ ∀ q, q ∉ [39, 43, 45, 47, 49] → s.2 q = S q)
    (fun S' => TK T F b (o * 1000 + a * 100 + 100) S' ∧ ∀ q, q ∉ [39, 43, 45, 47, 49] → S' q = S q) (hi T 1 + 1 - lo T 1) ?_ ?_ (by omega) ⟨rfl, hstart, fun _ _ => rfl⟩
  · rintro i ⟨y, U⟩ hil ⟨hy, u1, u2⟩
    dsimp only at hy u1 u2 ⊢
    subst hy
    obtain ⟨e, he⟩ : ∃ e, e = lo T 1 + i := ⟨_, rfl⟩
    rw [← he] at u1 ⊢
    have he9 : e ≤ hi T 1 := by omega
    have he10 : e < 10 := by omega
    have XU := XC_fr hX u2
    have h1 : 1 < T ↔ 1 ≤ e := by
      unfold lo at he
      unfold hi at he9
      by_cases z : 1 < T
      · rw [if_pos z] at he
        exact ⟨fun _ => by omega, fun _ => z⟩
      · rw [if_neg z] at he9
        exact ⟨fun w => absurd w z, fun w => by omega⟩
    obtain ⟨S', k1, k2, k3⟩ := X_L84 (N := N) v2 (nI (co F b b.1 0 o ||| co F b b.1 1 (o + a))) hG XU ho ha he10 h0 h1 u1 hN
    refine ⟨(nI (lo T 1 + (i + 1)), S'), ?_, rfl, TK_at k2 (by omega), fun q hq => (k3 q hq).trans (u2 q hq)⟩
    unfold f8_meetWorldsWith_L41 f8_meetWorldsWith_b181
    have ml : f8_mostOf N (1 : Int32) U = some (nI (hi T 1)) := (X_least (i := 1) (N := N) XU.1 hG (by decide)).2
    have ll : f8_leastOf N (2 : Int32) U = some (nI (lo T 2)) := (X_least (i := 2) (N := N) XU.1 hG (by decide)).1
    have c2 : f8_code N (2 : Int32) (nI (o + e)) U = _ := X_code (s := 2) XU (by decide) (show o + e < 37 by omega)
    have c3 : f8_code N (3 : Int32) (nI (o + a + e)) U = _ := X_code (s := 3) XU (by decide) (show o + a + e < 37 by omega)
    rw [ml, bnp_ok, if_neg (nI_nlt he9 (by omega)), nI_add, c2, bnp_ok, nI_add, nI_add, c3, bnp_ok, lt_ok, fa_or, fa_or, ll, bnp_ok, k1, bnp_ok, lt_ok, he, nI_1, Nat.add_assoc]
  · rintro ⟨y, U⟩ ⟨hy, u1, u2⟩
    dsimp only at hy u1 u2 ⊢
    subst hy
    have XU := XC_fr hX u2
    have ml : f8_mostOf N (1 : Int32) U = some (nI (hi T 1)) := (X_least (i := 1) (N := N) XU.1 hG (by decide)).2
    refine ⟨U, ?_, ?_, u2⟩
    · unfold f8_meetWorldsWith_L41
      rw [ml, bnp_ok, if_pos (nI_lt (by omega) (by omega))]
    · rw [show lo T 1 + (hi T 1 + 1 - lo T 1) = hi T 1 + 1 by omega] at u1
      have hs := TK_skips (90 - hi T 1 * 10) u1 (by omega) (fun j j1 j2 => ?_)
      · rw [show o * 1000 + a * 100 + (hi T 1 + 1) * 10 + (90 - hi T 1 * 10) = o * 1000 + a * 100 + 100 by omega] at hs
        exact hs
      · obtain ⟨c, e, he, hc, h10⟩ : ∃ c e, j = o * 1000 + a * 100 + c * 10 + e ∧ c < 10 ∧ e < 10 := ⟨(j - (o * 1000 + a * 100)) / 10, (j - (o * 1000 + a * 100)) % 10, by omega, by omega, by omega⟩
        rw [he, vd_d ho ha hc h10]
        refine decide_eq_false (fun z => ?_)
        have hz : ¬ 1 < T := fun w => by
          unfold hi at j2 j1
          rw [if_pos w] at j1 j2
          omega
        exact hz (z.2.1.mpr (by omega))
/-- the loop of the first thing -/
theorem X_L13 {T F o N : Nat} {b : Bk} {S : Mem} (hG : GSt T F b) (hX : XC T F b S) (ho : o < 10) (h : TK T F b (o * 1000) S) (hN : 12 < N) : ∃ S', lp N (fun s : Int32 × Mem => f8_meetWorldsWith_L13 N (nI o) (nI (co F b b.1 0 o)) s.1 s.2) (nI (lo T 0), S) = some S' ∧ TK T F b (o * 1000 + 1000) S' ∧ ∀ q, q ∉ [39, 43, 45, 47, 49] → S' q = S q := by
  have hlo : lo T 0 ≤ 1 := by unfold lo; split <;> decide
  have hhi : hi T 0 ≤ 9 := by unfold hi; split <;> decide
  have hlh : lo T 0 ≤ hi T 0 := by unfold lo hi; split <;> decide
  have hstart : TK T F b (o * 1000 + lo T 0 * 100) S := by
    refine TK_skips (lo T 0 * 100) h (by omega) (fun j j1 j2 => ?_)
    obtain ⟨c, e, he, hc, h10⟩ : ∃ c e, j = o * 1000 + 0 * 100 + c * 10 + e ∧ c < 10 ∧ e < 10 := ⟨(j - o * 1000) / 10, (j - o * 1000) % 10, by omega, by omega, by omega⟩
    rw [he, vd_d ho (by decide) hc h10]
    have h2T : 0 < T := by
      unfold lo at j2
      by_cases z : 0 < T
      · exact z
      · rw [if_neg z] at j2; omega
    exact decide_eq_false (fun z => by have := z.1.mp h2T; omega)
  refine lp_inv (f := fun s : Int32 × Mem => f8_meetWorldsWith_L13 N (nI o) (nI (co F b b.1 0 o)) s.1 s.2)
    (fun i s => s.1 = nI (lo T 0 + i) ∧ TK T F b (o * 1000 + (lo T 0 + i) * 100) s.2 ∧ ∀ q, q ∉ [39, 43, 45, 47, 49] → s.2 q = S q)
    (fun S' => TK T F b (o * 1000 + 1000) S' ∧ ∀ q, q ∉ [39, 43, 45, 47, 49] → S' q = S q) (hi T 0 + 1 - lo T 0) ?_ ?_ (by omega) ⟨rfl, hstart, fun _ _ => rfl⟩
  · rintro i ⟨y, U⟩ hil ⟨hy, u1, u2⟩
    dsimp only at hy u1 u2 ⊢
    subst hy
    obtain ⟨e, he⟩ : ∃ e, e = lo T 0 + i := ⟨_, rfl⟩
    rw [← he] at u1 ⊢
    have he9 : e ≤ hi T 0 := by omega
    have he10 : e < 10 := by omega
    have XU := XC_fr hX u2
    have h1 : 0 < T ↔ 1 ≤ e := by
      unfold lo at he
      unfold hi at he9
      by_cases z : 0 < T
      · rw [if_pos z] at he
        exact ⟨fun _ => by omega, fun _ => z⟩
      · rw [if_neg z] at he9
        exact ⟨fun w => absurd w z, fun w => by omega⟩
    obtain ⟨S', k1, k2, k3⟩ := X_L41 (N := N) (nI (co F b b.1 0 o)) hG XU ho he10 h1 u1 hN
    refine ⟨(nI (lo T 0 + (i + 1)), S'), ?_, rfl, TK_at k2 (by omega), fun q hq => (k3 q hq).trans (u2 q hq)⟩
    unfold f8_meetWorldsWith_L13 f8_meetWorldsWith_b187
    have ml : f8_mostOf N (0 : Int32) U = some (nI (hi T 0)) := (X_least (i := 0) (N := N) XU.1 hG (by decide)).2
    have ll : f8_leastOf N (1 : Int32) U = some (nI (lo T 1)) := (X_least (i := 1) (N := N) XU.1 hG (by decide)).1
    have c1' : f8_code N (1 : Int32) (nI (o + e)) U = _ := X_code (s := 1) XU (by decide) (show o + e < 37 by omega)
    rw [ml, bnp_ok, if_neg (nI_nlt he9 (by omega)), nI_add, c1', bnp_ok, lt_ok, fa_or, ll, bnp_ok, k1, bnp_ok, lt_ok, he, nI_1, Nat.add_assoc]
  · rintro ⟨y, U⟩ ⟨hy, u1, u2⟩
    dsimp only at hy u1 u2 ⊢
    subst hy
    have XU := XC_fr hX u2
    have ml : f8_mostOf N (0 : Int32) U = some (nI (hi T 0)) := (X_least (i := 0) (N := N) XU.1 hG (by decide)).2
    refine ⟨U, ?_, ?_, u2⟩
    · unfold f8_meetWorldsWith_L13
      rw [ml, bnp_ok, if_pos (nI_lt (by omega) (by omega))]
    · rw [show lo T 0 + (hi T 0 + 1 - lo T 0) = hi T 0 + 1 by omega] at u1
      have hs := TK_skips (900 - hi T 0 * 100) u1 (by omega) (fun j j1 j2 => ?_)
      · rw [show o * 1000 + (hi T 0 + 1) * 100 + (900 - hi T 0 * 100) = o * 1000 + 1000 by omega] at hs
        exact hs
      · obtain ⟨a, c, e, he, ha, hc, h10⟩ : ∃ a c e, j = o * 1000 + a * 100 + c * 10 + e ∧ a < 10 ∧ c < 10 ∧ e < 10 := ⟨(j - o * 1000) / 100, (j - o * 1000) % 100 / 10, (j - o * 1000) % 10, by omega, by omega, by omega, by omega⟩
        rw [he, vd_d ho ha hc h10]
        refine decide_eq_false (fun z => ?_)
        have hz : ¬ 0 < T := fun w => by
          unfold hi at j2 j1
          rw [if_pos w] at j1 j2
          omega
        exact hz (z.1.mpr (by omega))
theorem X_own {T F o N : Nat} {b : Bk} {S : Mem} (hG : GSt T F b) (hX : XC T F b S) (ho : o < 10) (h : TK T F b (o * 1000) S) (hN : 12 < N) : ∃ S', f8_meetWorldsWith N (nI o) S = some ((), S') ∧ TK T F b (o * 1000 + 1000) S' ∧ ∀ q, q ∉ [39, 43, 45, 47, 49] → S' q = S q := by
  obtain ⟨S', k1, k2, k3⟩ := X_L13 hG hX ho h hN
  refine ⟨S', ?_, k2, k3⟩
  unfold f8_meetWorldsWith f8_meetWorldsWith_b193
  have ll : f8_leastOf N (0 : Int32) S = some (nI (lo T 0)) := (X_least (i := 0) (N := N) hX.1 hG (by decide)).1
  have c0' : f8_code N (0 : Int32) (nI o) S = _ := X_code (s := 0) hX (by decide) (show o < 37 by omega)
  rw [c0', bnp_ok, ll, bnp_ok, k1, bnp_ok]
