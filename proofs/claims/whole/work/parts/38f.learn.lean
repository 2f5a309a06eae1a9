/-- what is known -/
def TB (T F : Nat) (b : Bk) (S : Mem) : Prop := (S 39).1 7 = 1 ∧ (S 39).1 8 = nI (fb_sm (gA T F b) 10000) ∧ (S 39).1 9 = nI (foK T F b 10000).1 ∧ (S 39).1 10 = nI (foK T F b 10000).2 ∧ (∀ y, y < 10000 → ((S 43).1 (y / 32)).toBitVec.getLsbD (y % 32) = lf T F b y) ∧ (∀ i w, i < 4 → w < 10 → (S 45).1 (i * 10 + w) = nI (fb_sm (gW T F b i w) 10000)) ∧ (∀ l, l < 13 → (S 47).1 l = nI (fb_sm (gL T F b l) 10000)) ∧ (∀ k l, k < 12 → l < 13 → (S 49).1 (k * 13 + l) = nI (fb_sm (gU T F b k l) 10000))
theorem TB_eq {T F : Nat} {b : Bk} {S S' : Mem} (h : TB T F b S) (e : ∀ q, q ∈ [39, 43, 45, 47, 49] → S' q = S q) : TB T F b S' := by
  unfold TB
  rw [e 39 (by decide), e 43 (by decide), e 45 (by decide), e 47 (by decide), e 49 (by decide)]
  exact h
theorem cK_all (g : Nat → Nat) : cK g 10000 = fb_sm g 10000 := sm_uk g
theorem TB_of {T F : Nat} {b : Bk} {S : Mem} (h : TK T F b 10000 S) : TB T F b S := by
  obtain ⟨h1, h2, h3, h4, h5, h6, h7, h8⟩ := h
  refine ⟨h1, by rw [← cK_all]; exact h2, h3, h4, fun y hy => ?_, fun i w hi hw => by rw [← cK_all]; exact h6 i w hi hw, fun l hl => by rw [← cK_all]; exact h7 l hl, fun k l hk hl => by rw [← cK_all]; exact h8 k l hk hl⟩
  rw [h5 y hy, decide_eq_true (ky_uk hy).1, Bool.and_true]
def XCa (T F : Nat) (b : Bk) (S : Mem) : Prop := (S 39).1 7 = 0 ∨ TB T F b S
theorem X_learn {T F N : Nat} {b : Bk} {S : Mem} (hG : GSt T F b) (hX : XSt T F b S) (hC : XCa T F b S) (hN : 400 < N) : ∃ S', f8_learn N S = some ((), S') ∧ TB T F b S' ∧ ∀ q, q ∉ [39, 41, 43, 45, 47, 49] → S' q = S q := by
  unfold f8_learn f8_learn_b80
  rcases hC with h7 | hT
  · rw [if_pos h7, lt_ok, lt_ok, lt_ok, lt_ok]
    obtain ⟨S0, hS0⟩ : ∃ Z, Z = wr (wr (wr (wr S 39 7 1) 39 8 0) 39 9 13) 39 10 0 := ⟨_, rfl⟩
    rw [← hS0]
    have f0 : ∀ q, q ≠ 39 → S0 q = S q := fun q hq => by rw [hS0, wr_ne _ _ _ _ hq, wr_ne _ _ _ _ hq, wr_ne _ _ _ _ hq, wr_ne _ _ _ _ hq]
    obtain ⟨S1, a1, a2, a3⟩ := f5_wipe_ok (N := N) (k := 42) (n := 313) (S := S0) (by decide) (by omega)
    obtain ⟨S2, b1, b2, b3⟩ := f5_wipe_ok (N := N) (k := 44) (n := 40) (S := S1) (by decide) (by omega)
    obtain ⟨S3, d1, d2, d3⟩ := f5_wipe_ok (N := N) (k := 46) (n := 13) (S := S2) (by decide) (by omega)
    obtain ⟨S4, e1, e2, e3⟩ := f5_wipe_ok (N := N) (k := 48) (n := 156) (S := S3) (by decide) (by omega)
    have fr4 : ∀ q, q ∉ [39, 41, 43, 45, 47, 49] → S4 q = S q := fun q hq => by
      simp only [List.mem_cons, List.not_mem_nil, or_false, not_or] at hq
      obtain ⟨q39, q41, q43, q45, q47, q49⟩ := hq
      rw [e2 q q49, d2 q q47, b2 q q45, a2 q q43, f0 q q39]
    have X4 : XSt T F b S4 := XSt_fl hX (fun q hq => fr4 q (fun z => hq (by revert z; simp only [List.mem_cons, List.not_mem_nil, or_false]; omega)))
    obtain ⟨S5, g1, g2, g3⟩ := X_codes (N := N) X4 hG (by omega)
    rw [a1, bnd_ok, b1, bnd_ok, d1, bnd_ok, e1, bnd_ok, g1, bnd_ok]
    have X5 : XC T F b S5 := ⟨XSt_fl X4 (FL_one g3 (by decide)), g2⟩
    have e39 : S5 39 = S0 39 := by rw [g3 39 (by decide), e2 39 (by decide), d2 39 (by decide), b2 39 (by decide), a2 39 (by decide)]
    have e43 : S5 43 = S1 43 := by rw [g3 43 (by decide), e2 43 (by decide), d2 43 (by decide), b2 43 (by decide)]
    have e45 : S5 45 = S2 45 := by rw [g3 45 (by decide), e2 45 (by decide), d2 45 (by decide)]
    have e47 : S5 47 = S3 47 := by rw [g3 47 (by decide), e2 47 (by decide)]
    have e49 : S5 49 = S4 49 := g3 49 (by decide)
    have T5 : TK T F b 0 S5 := by
      refine ⟨?_, ?_, ?_, ?_, fun y hy => ?_, fun i w hi hw => ?_, fun l hl => ?_, fun k l hk hl => ?_⟩
      · rw [e39, hS0, wr_oth (by decide), wr_oth (by decide), wr_oth (by decide), wr_val]
      · rw [e39, hS0, wr_oth (by decide), wr_oth (by decide), wr_val]; rfl
      · rw [e39, hS0, wr_oth (by decide), wr_val]; rfl
      · rw [e39, hS0, wr_val]; rfl
      · rw [decide_eq_false (Nat.not_lt_zero _), Bool.and_false, e43]
        have := a3 (y / 32) (by omega)
        rw [show S1 43 = S1 (42 + 1) from rfl, this]
        exact BitVec.getLsbD_zero
      · rw [e45]; exact b3 _ (by omega)
      · rw [e47]; exact d3 _ (by omega)
      · rw [e49]; exact e3 _ (by omega)
    obtain ⟨S6, k1, k2, k3⟩ := lp_inv (f := fun s : Int32 × Mem => f8_learn_L63 N s.1 s.2) (s := ((0 : Int32), S5)) (N := N)
      (fun i s => s.1 = nI i ∧ TK T F b (i * 1000) s.2 ∧ ∀ q, q ∉ [39, 43, 45, 47, 49] → s.2 q = S5 q)
      (fun S' => TK T F b 10000 S' ∧ ∀ q, q ∉ [39, 43, 45, 47, 49] → S' q = S5 q) 10
      (by
        rintro i ⟨y, U⟩ hi ⟨hy, u1, u2⟩
        dsimp only at hy u1 u2 ⊢
        subst hy
        obtain ⟨S', m1, m2, m3⟩ := X_own (N := N) hG (XC_fr X5 u2) hi u1 (by omega)
        refine ⟨(nI (i + 1), S'), ?_, rfl, TK_at m2 (by omega), fun q hq => (m3 q hq).trans (u2 q hq)⟩
        unfold f8_learn_L63
        rw [if_neg (show ¬ (9 : Int32) < nI i from nI_nlt (a := 9) (by omega) (by decide)), m1, bnd_ok, lt_ok, nI_1])
      (by
        rintro ⟨y, U⟩ ⟨hy, u1, u2⟩
        dsimp only at hy u1 u2 ⊢
        subst hy
        refine ⟨U, ?_, u1, u2⟩
        unfold f8_learn_L63
        rw [if_pos (by decide)])
      (by omega) ⟨rfl, T5, fun _ _ => rfl⟩
    rw [k1, bnp_ok]
    refine ⟨S6, rfl, TB_of k2, fun q hq => ?_⟩
    have h41 : q ≠ 41 := fun z => hq (by rw [z]; decide)
    rw [k3 q (fun z => hq (by revert z; simp only [List.mem_cons, List.not_mem_nil, or_false]; omega)), g3 q h41, fr4 q hq]
  · rw [if_neg (by rw [hT.1]; decide)]
    exact ⟨S, rfl, hT, fun _ _ => rfl⟩
