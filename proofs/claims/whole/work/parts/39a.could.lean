/-! THE QUESTIONS -/
abbrev XCA (a : Ab) (S : Mem) : Prop := XCa a.2.1.1 a.2.1.2.2.2 a.2.2.1 S
def Kp (a : Ab) (S : Mem) : Prop := XA a S ∧ MA a S ∧ XCA a S
theorem FL_of {S S' : Mem} (h : ∀ q, q ∉ [39, 41, 43, 45, 47, 49] → S' q = S q) : FL S S' := fun q hq => h q (fun z => hq (by revert z; simp only [List.mem_cons, List.not_mem_nil, or_false]; omega))
theorem TB_fw {T F : Nat} {b : Bk} {S S' : Mem} (h : TB T F b S) (f : FW S S') : TB T F b S' := TB_eq h (fun q hq => f q (by revert q; decide))
theorem Kp_done {a : Ab} {S S1 S2 : Mem} (hX : XA a S) (hM : MA a S) (f1 : FL S S1) (hT : TB a.2.1.1 a.2.1.2.2.2 a.2.2.1 S1) (f2 : FW S1 S2) : Kp a S2 :=
  ⟨XA_fw (XA_fl hX f1) f2, MA_fw (MA_fl hM f1) f2, Or.inr (TB_fw hT f2)⟩
theorem MW_at {T x j : Nat} {S : Mem} (h : MW T x S) (hj : j < T ∨ j = 3) : (S 65).1 j = nI (dg x j) := by
  rcases hj with hj | rfl
  · exact h.2 j hj
  · exact h.1
theorem item_cases {T N : Nat} {S S' : Mem} (hT : T ≤ 3) (h10 : (S 10).1 2 = nI T) (h59 : (S' 59).1 0 = nI T) (i : Int32) : (∃ j, j < 4 ∧ (j < T ∨ j = 3) ∧ i = nI j ∧ f9_isItem N i S = some 1 ∧ f10_isOne N i S' = some 1) ∨ (f9_isItem N i S = some 0 ∧ f10_isOne N i S' = some 0) := by
  unfold f9_isItem f9_isItem_b22 f6_things_10 f10_isOne f10_isOne_b13 f10_isThing
  rcases btw_cnt (i := i) (T := T) (by omega) with ⟨j, hj, rfl, hb⟩ | ⟨hne, hb⟩
  · have h3 : ¬ nI j = 3 := ne_nI (b := 3) (by omega) (by decide) (by omega)
    refine Or.inl ⟨j, by omega, Or.inl hj, rfl, ?_, ?_⟩
    · simp (disch := omega) only [bnp_ok, bnd_ok, lt_ok, c0, c1, c2, c3, nI_clamp, nI_neg, nI_ltI, nI_leI, nI_eq, lt_t, lt_f, le_t, le_f, eq_t, eq_f, or_true, true_or, or_false, false_or, if_true, if_false, not_true, not_false_iff, z0, o0, o1, and_true, true_and, and_false, false_and, h3, h10, fX_btw, hb]
    · simp (disch := omega) only [bnp_ok, bnd_ok, lt_ok, c0, c1, c2, c3, nI_clamp, nI_neg, nI_ltI, nI_leI, nI_eq, lt_t, lt_f, le_t, le_f, eq_t, eq_f, or_true, true_or, or_false, false_or, if_true, if_false, not_true, not_false_iff, z0, o0, o1, and_true, true_and, and_false, false_and, h59, fM_btw, hb, h3]
  · by_cases h3 : i = 3
    · refine Or.inl ⟨3, by decide, Or.inr rfl, h3, ?_, ?_⟩
      · rw [if_pos h3]
      · simp (disch := omega) only [bnp_ok, bnd_ok, lt_ok, c0, c1, c2, c3, nI_clamp, nI_neg, nI_ltI, nI_leI, nI_eq, lt_t, lt_f, le_t, le_f, eq_t, eq_f, or_true, true_or, or_false, false_or, if_true, if_false, not_true, not_false_iff, z0, o0, o1, and_true, true_and, and_false, false_and, h59, fM_btw, hb, h3]
        have := hb
        rw [h3] at this
        simp only [this, o1, true_or, or_true, if_true, bnp_ok]
    · refine Or.inr ⟨?_, ?_⟩
      · simp (disch := omega) only [bnp_ok, bnd_ok, lt_ok, c0, c1, c2, c3, nI_clamp, nI_neg, nI_ltI, nI_leI, nI_eq, lt_t, lt_f, le_t, le_f, eq_t, eq_f, or_true, true_or, or_false, false_or, if_true, if_false, not_true, not_false_iff, z0, o0, o1, and_true, true_and, and_false, false_and, h3, h10, fX_btw, hb]
      · simp (disch := omega) only [bnp_ok, bnd_ok, lt_ok, c0, c1, c2, c3, nI_clamp, nI_neg, nI_ltI, nI_leI, nI_eq, lt_t, lt_f, le_t, le_f, eq_t, eq_f, or_true, true_or, or_false, false_or, if_true, if_false, not_true, not_false_iff, z0, o0, o1, and_true, true_and, and_false, false_and, h59, fM_btw, hb, h3]
/-- the model counts -/
def cM (T F : Nat) (b : Bk) (g : Nat → Bool) (n : Nat) : Nat := fb_sm (fun c => if mis F b (ph T c) = 0 ∧ g (ph T c) = true then 1 else 0) n
theorem cM_all {T F : Nat} {b : Bk} (hT : T ≤ 3) (g : Nat → Bool) : cM T F b g (nW T) = fb_sm (fun x => if lf T F b x = true ∧ g x = true then 1 else 0) 10000 := by
  refine (sm_ph hT (fun x => if mis F b x = 0 ∧ g x = true then 1 else 0)).trans (fb_sm_cong (fun x hx => ?_))
  unfold lf
  by_cases hv : vd T x = true
  · rw [if_pos hv, hv]
    simp only [Bool.true_and, decide_eq_true_eq]
  · rw [if_neg hv, eq_false_of_ne_true hv]
    simp only [Bool.false_and, Bool.false_eq_true, false_and, if_false]
theorem cM_succ {T F : Nat} {b : Bk} {g : Nat → Bool} {c : Nat} : cM T F b g (c + 1) = cM T F b g c + (if mis F b (ph T c) = 0 ∧ g (ph T c) = true then 1 else 0) := fb_sm_succ _ _
theorem M_many {T F : Nat} {b : Bk} {S : Mem} {N : Nat} (hN : 10001 < N) (hM : MSt T F b S) (hG : GSt T F b) {v1 : Int32} {g : Nat → Bool} {w : Nat} (hw : w < 10) (hg : ∀ x (U : Mem), x < 10000 → MW T x U → (v1 < 0 ∧ g x = true) ∨ (¬ v1 < 0 ∧ ∃ j, j < 4 ∧ v1 = nI j ∧ (U 65).1 j = nI (dg x j) ∧ g x = decide (dg x j = w))) : ∃ S2, f10_many N v1 (nI w) S = some (nI (fb_sm (fun x => if lf T F b x = true ∧ g x = true then 1 else 0) 10000), S2) ∧ FW S S2 := by
  have hT := hG.1
  have hnW := nW_le hT
  rw [← cM_all hT]
  obtain ⟨r, k1, k2, k3⟩ := lp_inv (f := fun s : Int32 × Int32 × Mem => f10_many_L5 N v1 (nI w) s.1 s.2.1 s.2.2) (s := ((0 : Int32), (0 : Int32), S)) (N := N)
    (fun i s => s.1 = nI (cM T F b g i) ∧ s.2.1 = nI i ∧ FW S s.2.2)
    (fun s => s.1 = nI (cM T F b g (nW T)) ∧ FW S s.2) (nW T)
    (by
      rintro c ⟨x, y, U⟩ hc ⟨hx, hy, u1⟩
      dsimp only at hx hy u1 ⊢
      subst hx; subst hy
      have hU := MSt_fw hM u1
      obtain ⟨V, v1', v2', v3'⟩ := M_canBe (N := N) hU hG hc (by omega)
      have hph := (ph_ps hT hc).1
      refine ⟨(nI (cM T F b g (c + 1)), nI (c + 1), V), ?_, rfl, rfl, FW_tr u1 (FW_65 v3')⟩
      unfold f10_many_L5 f10_many_b42 f10_many_b38 f10_many_b43
      rw [M_worlds hU hG (by omega), bnp_ok, if_neg (nI_ge hc (by omega)), v1', bnd_ok, cM_succ]
      by_cases hm : mis F b (ph T c) = 0
      · rw [if_pos hm, if_neg (show ¬ (1 : Int32) = 0 by decide)]
        rcases hg _ V hph v2' with ⟨g1, g2⟩ | ⟨g1, j, g2, g3, g4, g5⟩
        · rw [if_pos g1, lt_ok, lt_ok, nI_1, nI_1, if_pos ⟨hm, g2⟩]
        · have hd := dg_lt (i := j) hph
          rw [if_neg g1, g3, if_neg (nI_in g2 (by decide)), lt_ok, nI_clamp (by omega), g4]
          by_cases e : dg (ph T c) j = w
          · rw [if_pos (by rw [e]), lt_ok, lt_ok, nI_1, nI_1, if_pos ⟨hm, by rw [g5, decide_eq_true e]⟩]
          · rw [if_neg (ne_nI (by omega) (by omega) e), lt_ok, lt_ok, nI_1, if_neg (fun z => e (of_decide_eq_true (g5 ▸ z.2))), show (0 : Int32) = nI 0 from rfl, nI_add]
      · rw [if_neg hm, if_pos rfl, lt_ok, lt_ok, nI_1, if_neg (fun z => hm z.1), show (0 : Int32) = nI 0 from rfl, nI_add])
    (by
      rintro ⟨x, y, U⟩ ⟨hx, hy, u1⟩
      dsimp only at hx hy u1 ⊢
      subst hx; subst hy
      refine ⟨(nI (cM T F b g (nW T)), U), ?_, rfl, u1⟩
      unfold f10_many_L5
      rw [M_worlds (MSt_fw hM u1) hG (by omega), bnp_ok, if_pos (nI_le (Nat.le_refl _) (by omega))])
    (by omega) ⟨rfl, rfl, FW_refl S⟩
  refine ⟨r.2, ?_, k3⟩
  unfold f10_many f10_many_b51
  rw [k1, bnp_ok, k2]
theorem op_could {a : Ab} {S : Mem} {N : Nat} (hN : 10001 < N) (hG : GA a) (hX : XA a S) (hM : MA a S) (hC : XCA a S) (i w : Int32) : ∃ r S1 S2, f9_could N i w S = some (r, S1) ∧ f10_could N i w S1 = some (r, S2) ∧ Kp a S2 := by
  have hG' := GA_GSt hG
  have hT := hG'.1
  have hnW := nW_le hT
  obtain ⟨S1, l1, l2, l3⟩ := X_learn hG' (XA_XSt hX) hC (by omega : 400 < N)
  have fl := FL_of l3
  have hMs := MA_MSt (MA_fl hM fl)
  have known : f9_known N S = some ((), S1) := by
    unfold f9_known
    rw [l1, bnd_ok]
  have bad : ∀ r : Int32, f9_could N i w S = some (r, S) → f10_could N i w S = some (r, S) → ∃ r S1 S2, f9_could N i w S = some (r, S1) ∧ f10_could N i w S1 = some (r, S2) ∧ Kp a S2 := fun r h1 h2 => ⟨r, S, S, h1, h2, hX, hM, hC⟩
  have hw := btw_lit (i := w) (a := 0) (b := 9) (by decide) (by decide)
  rw [← l0, ← l9] at hw
  by_cases hi : i = -1
  · rcases hw with ⟨w', -, hw9, rfl, hb⟩ | ⟨-, hb⟩
    · obtain ⟨S2, m1, m2⟩ := M_many (v1 := i) (g := fun _ => true) (w := w') hN hMs hG' (by omega) (fun x U _ _ => Or.inl ⟨by rw [hi]; decide, rfl⟩)
      have em : fb_sm (fun x => if lf a.2.1.1 a.2.1.2.2.2 a.2.2.1 x = true ∧ true = true then 1 else 0) 10000 = fb_sm (gA a.2.1.1 a.2.1.2.2.2 a.2.2.1) 10000 := fb_sm_cong (fun x _ => by unfold gA; simp only [and_true])
      rw [em] at m1
      refine ⟨nI (fb_sm (gA a.2.1.1 a.2.1.2.2.2 a.2.2.1) 10000), S1, S2, ?_, ?_, Kp_done hX hM fl l2 m2⟩
      · unfold f9_could f9_could_b13 f8_left
        rw [if_pos hi, fX_btw, bnp_ok, hb, if_neg (by decide), if_pos hi, known, bnd_ok, bnp_ok, l2.2.1]
      · unfold f10_could f10_could_b13
        rw [if_pos hi, fM_btw, bnp_ok, hb, if_neg (by decide), m1, bnd_ok]
    · refine bad (-1) ?_ ?_
      · unfold f9_could f9_could_b13
        rw [if_pos hi, fX_btw, bnp_ok, hb, if_pos rfl]
      · unfold f10_could f10_could_b13
        rw [if_pos hi, fM_btw, bnp_ok, hb, if_pos rfl]
  · rcases item_cases (N := N) hT hX.2.1.1 hM.2.1.1 i with ⟨j, hj4, hj, rfl, x1, y1⟩ | ⟨x1, y1⟩
    · rcases hw with ⟨w', -, hw9, rfl, hb⟩ | ⟨-, hb⟩
      · obtain ⟨S2, m1, m2⟩ := M_many (v1 := nI j) (g := fun x => decide (dg x j = w')) (w := w') hN hMs hG' (by omega) (fun x U _ hU => Or.inr ⟨nI_pos (by omega), j, hj4, rfl, MW_at hU hj, rfl⟩)
        have y1' : f10_isOne N (nI j) S1 = some 1 := by
          rcases item_cases (N := N) (S := S) (S' := S1) hT hX.2.1.1 hMs.1 (nI j) with ⟨_, _, _, _, _, h⟩ | ⟨h, _⟩
          · exact h
          · rw [x1] at h; cases h
        have em : fb_sm (fun x => if lf a.2.1.1 a.2.1.2.2.2 a.2.2.1 x = true ∧ decide (dg x j = w') = true then 1 else 0) 10000 = fb_sm (gW a.2.1.1 a.2.1.2.2.2 a.2.2.1 j w') 10000 := fb_sm_cong (fun x _ => by unfold gW; simp only [decide_eq_true_eq])
        rw [em] at m1
        refine ⟨nI (fb_sm (gW a.2.1.1 a.2.1.2.2.2 a.2.2.1 j w') 10000), S1, S2, ?_, ?_, Kp_done hX hM fl l2 m2⟩
        · unfold f9_could f9_could_b13 f8_leftWith
          rw [if_neg hi, x1, bnp_ok, if_neg (by decide), fX_btw, bnp_ok, hb, if_neg (by decide), if_neg hi, known, bnd_ok, show (10 : Int32) = nI 10 from rfl, pk_mul, nI_add, f5_get_in (by omega) (by decide), bnp_ok, bnp_ok, l2.2.2.2.2.2.1 j w' hj4 (by omega)]
        · unfold f10_could f10_could_b13
          rw [if_neg hi, y1', bnp_ok, if_neg (by decide), fM_btw, bnp_ok, hb, if_neg (by decide), m1, bnd_ok]
      · refine bad (-1) ?_ ?_
        · unfold f9_could f9_could_b13
          rw [if_neg hi, x1, bnp_ok, if_neg (by decide), fX_btw, bnp_ok, hb, if_pos rfl]
        · unfold f10_could f10_could_b13
          rw [if_neg hi, y1, bnp_ok, if_neg (by decide), fM_btw, bnp_ok, hb, if_pos rfl]
    · refine bad (-1) ?_ ?_
      · unfold f9_could
        rw [if_neg hi, x1, bnp_ok, if_pos rfl]
      · unfold f10_could
        rw [if_neg hi, y1, bnp_ok, if_pos rfl]
