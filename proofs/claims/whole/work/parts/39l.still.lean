/-- of what the first may show: after which the second is in vain -/
theorem ix20 {v r v' r' : Nat} (h : r < 20) (h' : r' < 20) (hn : ¬ (v = v' ∧ r = r')) : v * 20 + r ≠ v' * 20 + r' := by
  intro e
  apply hn
  omega
theorem X_still {T F N s t j un : Nat} {b : Bk} {S : Mem} (hX : XSt T F b S) (hG : GSt T F b) (hT : TB T F b S) (hs : s < 8) (ht8 : t < 8) (hj : j < 4) (hu : un < 2 ^ 20) (hN : 10002 < N) : ∃ vn S', f3_stillUnsure N (nI un) (nI s) (nI t) (nI j) S = some (nI vn, S') ∧ vn < 2 ^ 20 ∧ (∀ v, vn.testBit v = true ↔ un.testBit v = true ∧ bd F j s t (pA T F b 10000) v) ∧ ∀ q, q ≠ 56 → S' q = S q := by
  have ht := tot_le (T := T) (F := F) (b := b)
  have hF2 := hG.2.1
  have hF20 := hG.2.2.1
  unfold f3_stillUnsure f3_stillUnsure_b134 f8_left
  obtain ⟨S1, w1, w2, w3⟩ := f5_wipe_ok (N := N) (k := 55) (n := 400) (S := S) (by decide) (by omega)
  have e8 : (S1 39).1 8 = nI (fb_sm (gA T F b) 10000) := by rw [w2 39 (by decide)]; exact hT.2.1
  rw [w1, bnd_ok, bnp_ok, e8]
  obtain ⟨r, k1, vn, k2, k3, k4, k5⟩ := lp_invE0 (f := fun u : Int32 × Int32 × Int32 × Mem => f3_stillUnsure_L25 N (nI un) (nI s) (nI t) (nI j) (nI (fb_sm (gA T F b) 10000)) u.1 u.2.1 u.2.2.1 u.2.2.2) (s := ((0 : Int32), (-1 : Int32), (0 : Int32), S1)) (N := N)
    (fun i u => ∃ p vn, p ≤ 10000 ∧ fb_sm (gA T F b) p = i ∧ u.1 = nI vn ∧ vn < 2 ^ 20 ∧ u.2.1 = nI p - 1 ∧ u.2.2.1 = nI i ∧ (∀ q, q ≠ 56 → u.2.2.2 q = S q) ∧ (∀ v, vn.testBit v = true ↔ un.testBit v = true ∧ bd F j s t (pA T F b p) v) ∧ ∀ v r, v < 20 → r < 20 → un.testBit v = true → vn.testBit v = false → cl F j s t (pA T F b p) (fun w => nI (2 ^ w)) v r ((u.2.2.2 56).1 (v * 20 + r)))
    (fun r => ∃ vn, r.1 = nI vn ∧ vn < 2 ^ 20 ∧ (∀ v, vn.testBit v = true ↔ un.testBit v = true ∧ bd F j s t (pA T F b 10000) v) ∧ ∀ q, q ≠ 56 → r.2 q = S q) (fb_sm (gA T F b) 10000)
    (by
      rintro i ⟨vv, y, z, U⟩ hi ⟨p, vn, hp, p1, p0, hvn, p2, p3, p4, p5, p6⟩
      dsimp only at p0 p2 p3 p4 p6 ⊢
      subst p0; subst p2; subst p3
      by_cases ce : vn = un
      · refine Or.inr ⟨(nI vn, U), ?_, vn, rfl, hvn, fun v => ⟨fun h => ?_, fun h => by rw [ce]; exact h.1⟩, p4⟩
        · unfold f3_stillUnsure_L25
          rw [if_neg (nI_ge hi (by omega)), if_pos (by rw [ce])]
        · have h' := (p5 v).mp h
          exact ⟨h'.1, bd_sub (pA_sub hp) h'.2⟩
      · refine Or.inl ?_
        have hy := nx_lt (T := T) (F := F) (b := b) hp (by omega)
        have hyl := nx_yes hp hy
        have hyp := nx_ge (T := T) (F := F) (b := b) (p := p)
        have TU : TB T F b U := TB_eq hT (fun q hq => p4 q (by revert q; decide))
        have XU : XSt T F b U := XSt_fl hX (FL_one p4 (by decide))
        have hA : fb_sm (gA T F b) (nx T F b p + 1) = i + 1 := by
          rw [fb_sm_succ, sm_nx (fun x hx => gA_no hx), p1, gA_yes hyl]
        have hpa := pA_ad hp hy
        have haf := X_after (N := N) TU hp hN
        obtain ⟨x, hx⟩ : ∃ x, x = nx T F b p := ⟨_, rfl⟩
        rw [← hx] at hy hyl hyp hA hpa haf
        have hv : ld x s % F < F := Nat.mod_lt _ (by omega)
        have hr : ld x t % F < F := Nat.mod_lt _ (by omega)
        have hd := dg_lt (i := j) hy
        have hal := an_lt (u := un) (v := vn)
        have hop : (((nI un &&& (nI vn ^^^ (-1 : Int32))) >>> (nI (ld x s % F) &&& 31)) &&& (1 : Int32)) = nI (bt2 (an un vn) (ld x s % F)) := by
          rw [an_I hu, bit_nI (by omega) (by omega)]
        have step : f3_stillUnsure_L25 N (nI un) (nI s) (nI t) (nI j) (nI (fb_sm (gA T F b) 10000)) (nI vn) (nI p - 1) (nI i) U = if nI (bt2 (an un vn) (ld x s % F)) = 1 then f3_stillUnsure_b93 N (nI un) (nI s) (nI t) (nI j) (nI vn) (nI (fb_sm (gA T F b) 10000)) (nI x) (nI i) (nI (ld x s % F)) (nI (ld x s % F * 20 + ld x t % F)) 1 U else f3_stillUnsure_b93 N (nI un) (nI s) (nI t) (nI j) (nI vn) (nI (fb_sm (gA T F b) 10000)) (nI x) (nI i) (nI (ld x s % F)) (nI (ld x s % F * 20 + ld x t % F)) 0 U := by
          unfold f3_stillUnsure_L25
          rw [if_neg (nI_ge hi (by omega)), if_neg (ne_nI (by omega) (by omega) ce), haf, bnp_ok, X_shown XU hG hy hs, bnp_ok, X_shown XU hG hy ht8, bnp_ok, show (20 : Int32) = nI 20 from rfl, pk_mul, nI_add, lt_ok, hop]
        by_cases co : un.testBit (ld x s % F) = true ∧ vn.testBit (ld x s % F) = false
        · have e1 : nI (bt2 (an un vn) (ld x s % F)) = 1 := by
            rw [bt2_bit, an_bit hu, co.1, co.2]
            rfl
          have h6 := p6 _ _ (show ld x s % F < 20 by omega) (show ld x t % F < 20 by omega) co.1 co.2
          have key : ((∀ x', pA T F b p x' → ld x' s % F = ld x s % F → ld x' t % F = ld x t % F → dg x' j = dg x j) ∧ f3_isTorn_55 N (nI (ld x s % F * 20 + ld x t % F)) (nI (dg x j)) U = some (0, wr U 56 (ld x s % F * 20 + ld x t % F) (nI (2 ^ dg x j)))) ∨ (bd F j s t (ad (pA T F b p) x) (ld x s % F) ∧ ∃ n, f3_isTorn_55 N (nI (ld x s % F * 20 + ld x t % F)) (nI (dg x j)) U = some (1, wr U 56 (ld x s % F * 20 + ld x t % F) (nI n))) := by
            have t := X_t2 (N := N) (S := U) (v := ld x s % F * 20 + ld x t % F) (by omega) hd
            rcases cl_3 h6 with ⟨c1, c2⟩ | ⟨w, c1, c2, c3, c4⟩ | ⟨w, c1, c2, c3, c4⟩
            · exact Or.inl ⟨c2, t.1 c1⟩
            · exact Or.inl ⟨c4, (t.2 w c1 c2).1 c3⟩
            · exact Or.inr ⟨c4, (t.2 w c1 c2).2 c3⟩
          rw [step, if_pos e1]
          unfold f3_stillUnsure_b93 f3_stillUnsure_b128
          rw [if_neg (show ¬ (1 : Int32) = 0 by decide), X_dg hy hj, bnp_ok]
          rcases key with ⟨c1, c2⟩ | ⟨c1, n, c2⟩
          · refine ⟨(nI vn, nI x, nI (i + 1), wr U 56 (ld x s % F * 20 + ld x t % F) (nI (2 ^ dg x j))), by rw [c2, bnd_ok, if_pos rfl, lt_ok, nI_1], x + 1, vn, by omega, hA, rfl, hvn, (nI_pred _).symm, rfl, fun q hq => by dsimp only; rw [wr_ne _ _ _ _ hq]; exact p4 q hq, fun v => ?_, fun v' r' hv' hr' hu' hn' => ?_⟩
            · rw [hpa, bd_ok c1]
              exact p5 v
            · dsimp only
              rw [hpa]
              by_cases e : v' = ld x s % F ∧ r' = ld x t % F
              · rw [e.1, e.2, wr_val]
                exact cl_put hd c1
              · rw [wr_oth (ix20 hr' (by omega) e)]
                exact cl_oth e (p6 v' r' hv' hr' hu' hn')
          · have hvn' : vn ||| 2 ^ (ld x s % F) < 2 ^ 20 := Nat.or_lt_two_pow hvn (Nat.pow_lt_pow_right (by decide) (by omega))
            refine ⟨(nI (vn ||| 2 ^ (ld x s % F)), nI x, nI (i + 1), wr U 56 (ld x s % F * 20 + ld x t % F) (nI n)), by rw [c2, bnd_ok, if_neg (by decide), shl_nI (by omega), fa_or, lt_ok, lt_ok, nI_1], x + 1, vn ||| 2 ^ (ld x s % F), by omega, hA, rfl, hvn', (nI_pred _).symm, rfl, fun q hq => by dsimp only; rw [wr_ne _ _ _ _ hq]; exact p4 q hq, fun v => ?_, fun v' r' hv' hr' hu' hn' => ?_⟩
            · rw [hpa, fb_bit_set]
              by_cases e : v = ld x s % F
              · rw [decide_eq_true e, Bool.or_true, e]
                exact ⟨fun _ => ⟨co.1, c1⟩, fun _ => rfl⟩
              · rw [decide_eq_false e, Bool.or_false, bd_oth e]
                exact p5 v
            · dsimp only
              rw [hpa]
              rw [fb_bit_set, Bool.or_eq_false_iff] at hn'
              have e : ¬ v' = ld x s % F := of_decide_eq_false hn'.2
              rw [wr_oth (ix20 hr' (by omega) (fun z => e z.1))]
              exact cl_oth (fun z => e z.1) (p6 v' r' hv' hr' hu' hn'.1)
        · have e1 : ¬ nI (bt2 (an un vn) (ld x s % F)) = 1 := by
            have h0 : (an un vn).testBit (ld x s % F) = false := by
              rw [an_bit hu]
              cases h1 : un.testBit (ld x s % F)
              · rfl
              · cases h2 : vn.testBit (ld x s % F)
                · exact absurd ⟨h1, h2⟩ co
                · rfl
            rw [bt2_bit, h0]
            decide
          rw [step, if_neg e1]
          unfold f3_stillUnsure_b93 f3_stillUnsure_b128
          refine ⟨(nI vn, nI x, nI (i + 1), U), by rw [if_pos rfl, lt_ok, nI_1], x + 1, vn, by omega, hA, rfl, hvn, (nI_pred _).symm, rfl, p4, fun v' => ?_, fun v' r' hv' hr' hu' hn' => ?_⟩
          · rw [hpa]
            by_cases e : v' = ld x s % F
            · constructor
              · intro h
                have h' := (p5 v').mp h
                exact ⟨h'.1, bd_sub (fun y hy => Or.inl hy) h'.2⟩
              · intro h
                by_cases c : vn.testBit v' = true
                · exact c
                · exact absurd ⟨by rw [← e]; exact h.1, by rw [← e]; exact eq_false_of_ne_true c⟩ co
            · rw [bd_oth e]
              exact p5 v'
          · rw [hpa]
            have e : ¬ v' = ld x s % F := fun e => co ⟨by rw [← e]; exact hu', by rw [← e]; exact hn'⟩
            exact cl_oth (fun z => e z.1) (p6 v' r' hv' hr' hu' hn'))
    (by
      rintro ⟨vv, y, z, U⟩ ⟨p, vn, hp, p1, p0, hvn, p2, p3, p4, p5, p6⟩
      dsimp only at p0 p2 p3 p4 p6 ⊢
      subst p0; subst p2; subst p3
      refine ⟨(nI vn, U), ?_, vn, rfl, hvn, fun v => ?_, p4⟩
      · unfold f3_stillUnsure_L25
        rw [if_pos (nI_le (Nat.le_refl _) (by omega))]
      · rw [← pA_all hp p1]
        exact p5 v)
    (by omega) ⟨0, 0, Nat.zero_le _, rfl, rfl, by decide, rfl, rfl, w2, fun v => ⟨fun h => absurd h (by rw [Nat.zero_testBit]; decide), fun h => absurd h.2 (bd_none pA_0)⟩, fun v r hv hr _ _ => cl_none pA_0 (w3 _ (by omega))⟩
  rw [k1, bnp_ok, k2]
  exact ⟨vn, r.2, rfl, k3, k4, k5⟩
/-- sure by two -/
theorem X_sure2 {T F N s j : Nat} {b : Bk} {S : Mem} (hX : XSt T F b S) (hG : GSt T F b) (hT : TB T F b S) (hs : s < 8) (hj : j < 4) (hN : 10002 < N) : ∃ r S', f3_isSureByTwo N (nI s) (nI j) S = some (r, S') ∧ ((r = 1 ∧ s2 T F j s (pA T F b 10000)) ∨ (r = 0 ∧ ¬ s2 T F j s (pA T F b 10000))) ∧ ∀ q, q ≠ 56 → S' q = S q := by
  have h3 := hG.1
  have p8 := pow3 h3
  have hF2 := hG.2.1
  have hF20 := hG.2.2.1
  have hp0 : 0 < 2 ^ F := Nat.two_pow_pos F
  have hpF : 2 ^ F - 1 < 2 ^ 20 := Nat.lt_of_lt_of_le (by omega) (Nat.pow_le_pow_right (by decide) hF20)
  unfold f3_isSureByTwo f3_isSureByTwo_b43 f6_figures_10
  rw [bnp_ok, hX.2.1, shl_nI (by omega), show nI (2 ^ F) - 1 = nI (2 ^ F - 1) from pk_sub (b := 1) hp0, lt_ok]
  obtain ⟨r, k1, un, k2, k3, k4, k5⟩ := lp_inv (f := fun u : Int32 × Int32 × Mem => f3_isSureByTwo_L15 N (nI s) (nI j) u.1 u.2.1 u.2.2) (s := (nI (2 ^ F - 1), (0 : Int32), S)) (N := N)
    (fun i u => ∃ un, u.1 = nI un ∧ un < 2 ^ 20 ∧ u.2.1 = nI i ∧ (∀ q, q ≠ 56 → u.2.2 q = S q) ∧ ∀ v, un.testBit v = true ↔ v < F ∧ ∀ t, t < i → bd F j s t (pA T F b 10000) v)
    (fun r => ∃ un, r.1 = nI un ∧ un < 2 ^ 20 ∧ (∀ q, q ≠ 56 → r.2 q = S q) ∧ ∀ v, un.testBit v = true ↔ v < F ∧ ∀ t, t < 2 ^ T → bd F j s t (pA T F b 10000) v) (2 ^ T)
    (by
      rintro i ⟨x, y, U⟩ hi ⟨un, p1, p2, p3, p4, p5⟩
      dsimp only at p1 p3 p4 ⊢
      subst p1; subst p3
      have TU : TB T F b U := TB_eq hT (fun q hq => p4 q (by revert q; decide))
      have XU : XSt T F b U := XSt_fl hX (FL_one p4 (by decide))
      obtain ⟨vn, V, v1, v2, v3, v4⟩ := X_still (N := N) (s := s) (t := i) (j := j) XU hG TU hs (by omega) hj p2 hN
      refine ⟨(nI vn, nI (i + 1), V), ?_, vn, rfl, v2, rfl, fun q hq => (v4 q hq).trans (p4 q hq), fun v => ?_⟩
      · unfold f3_isSureByTwo_L15
        rw [X_sets XU h3, bnp_ok, if_neg (nI_ge hi (by omega)), v1, bnd_ok, lt_ok, nI_1]
      · rw [v3, p5]
        constructor
        · rintro ⟨⟨a1, a2⟩, a3⟩
          refine ⟨a1, fun t ht => ?_⟩
          by_cases e : t = i
          · rw [e]; exact a3
          · exact a2 t (by omega)
        · rintro ⟨a1, a2⟩
          exact ⟨⟨a1, fun t ht => a2 t (by omega)⟩, a2 i (Nat.lt_succ_self i)⟩)
    (by
      rintro ⟨x, y, U⟩ ⟨un, p1, p2, p3, p4, p5⟩
      dsimp only at p1 p3 p4 ⊢
      subst p1; subst p3
      have XU : XSt T F b U := XSt_fl hX (FL_one p4 (by decide))
      refine ⟨(nI un, U), ?_, un, rfl, p2, p4, p5⟩
      unfold f3_isSureByTwo_L15
      rw [X_sets XU h3, bnp_ok, if_pos (nI_le (Nat.le_refl _) (by omega))])
    (by omega) ⟨2 ^ F - 1, rfl, hpF, rfl, fun _ _ => rfl, fun v => by
      rw [Nat.testBit_two_pow_sub_one, decide_eq_true_eq]
      exact ⟨fun h => ⟨h, fun t ht => absurd ht (Nat.not_lt_zero t)⟩, fun h => h.1⟩⟩
  rw [k1, bnp_ok, k2]
  by_cases c : un = 0
  · refine ⟨1, r.2, by rw [if_pos (show nI un = 0 by rw [c]; rfl)], Or.inl ⟨rfl, fun v hv => ?_⟩, k4⟩
    by_cases h : ∃ t, t < 2 ^ T ∧ ¬ bd F j s t (pA T F b 10000) v
    · exact h
    · have := (k5 v).mpr ⟨hv, fun t ht => by
        by_cases g : bd F j s t (pA T F b 10000) v
        · exact g
        · exact absurd ⟨t, ht, g⟩ h⟩
      rw [c, Nat.zero_testBit] at this
      cases this
  · refine ⟨0, r.2, by rw [if_neg (show ¬ nI un = 0 from ne_nI (b := 0) (by omega) (by decide) c)], Or.inr ⟨rfl, fun h => c ?_⟩, k4⟩
    apply Nat.eq_of_testBit_eq
    intro v
    rw [Nat.zero_testBit]
    apply eq_false_of_ne_true
    intro g
    obtain ⟨g1, g2⟩ := (k5 v).mp g
    obtain ⟨t, t1, t2⟩ := h v g1
    exact t2 (g2 t t1)
/-- FEWEST of the class -/
theorem FL_two {S S' : Mem} (h : ∀ q, q ≠ 54 → q ≠ 56 → S' q = S q) : FL S S' := fun q hq => h q (fun z => hq (by rw [z]; decide)) (fun z => hq (by rw [z]; decide))
theorem X_few {T F N j : Nat} {b : Bk} {S : Mem} (hX : XSt T F b S) (hG : GSt T F b) (hT : TB T F b S) (hj : j < 4) (hN : 10002 < N) : ∃ r S', f3_weighingsFor N (nI j) S = some (r, S') ∧ fwR T F b j r ∧ ∀ q, q ≠ 54 → q ≠ 56 → S' q = S q := by
  have h3 := hG.1
  have p8 := pow3 h3
  have ht := tot_le (T := T) (F := F) (b := b)
  unfold f3_weighingsFor f8_left
  rw [bnp_ok, hT.2.1]
  by_cases c0 : fb_sm (gA T F b) 10000 = 0
  · exact ⟨0, S, by rw [if_pos (show nI (fb_sm (gA T F b) 10000) = 0 by rw [c0]; rfl)], Or.inl ⟨Or.inl (oW_0.mpr c0), rfl⟩, fun _ _ _ => rfl⟩
  · rw [if_neg (show ¬ nI (fb_sm (gA T F b) 10000) = 0 from ne_nI (b := 0) (by omega) (by decide) c0)]
    obtain ⟨o, o1, o2⟩ := X_only (N := N) hT hj (by omega)
    rw [o1, bnp_ok]
    rcases o2 with ⟨w, g1, g2, g3⟩ | ⟨g1, g2⟩
    · exact ⟨0, S, by rw [g3, if_neg (ne9 (by omega))], Or.inl ⟨Or.inr ⟨w, g1, g2⟩, rfl⟩, fun _ _ _ => rfl⟩
    · rw [g2, if_pos rfl]
      have hk : ¬ kn T F b j := by
        rintro (z | ⟨w, z1, z2⟩)
        · exact c0 (oW_0.mp z)
        · exact g1 w z1 z2
      obtain ⟨r, k1, k2⟩ := lp_invE0 (f := fun u : Int32 × Mem => f3_weighingsFor_L27 N (nI j) u.1 u.2) (s := ((0 : Int32), S)) (N := N)
        (fun i u => u.1 = nI i ∧ (∀ q, q ≠ 54 → q ≠ 56 → u.2 q = S q) ∧ ∀ s, s < i → ¬ ∀ v, ¬ bd F j s s (pA T F b 10000) v)
        (fun r => (∃ U, r = .inl ((1 : Int32), U) ∧ (∀ q, q ≠ 54 → q ≠ 56 → U q = S q) ∧ P1 T F b j) ∨ ∃ U, r = .inr U ∧ (∀ q, q ≠ 54 → q ≠ 56 → U q = S q) ∧ ¬ P1 T F b j) (2 ^ T)
        (by
          rintro i ⟨x, U⟩ hi ⟨p1, p2, p3⟩
          dsimp only at p1 p2 ⊢
          subst p1
          have TU : TB T F b U := TB_eq hT (fun q hq => p2 q (by revert q; decide) (by revert q; decide))
          have XU : XSt T F b U := XSt_fl hX (FL_two p2)
          obtain ⟨o, V, v1, v2, v3⟩ := X_sure1 (N := N) (s := i) XU hG TU (by omega) hj hN
          have fV : ∀ q, q ≠ 54 → q ≠ 56 → V q = S q := fun q h h' => (v3 q h).trans (p2 q h h')
          unfold f3_weighingsFor_L27
          rw [X_sets XU h3, bnp_ok, if_neg (nI_ge hi (by omega)), v1, bnd_ok]
          rcases v2 with ⟨v4, v5⟩ | ⟨v4, v5⟩
          · exact Or.inr ⟨.inl (1, V), by rw [v4, if_neg (by decide)], Or.inl ⟨V, rfl, fV, i, hi, v5⟩⟩
          · refine Or.inl ⟨(nI (i + 1), V), by rw [v4, if_pos rfl, lt_ok, nI_1], rfl, fV, fun s hs h => ?_⟩
            by_cases e : s = i
            · obtain ⟨v, hv⟩ := v5
              rw [e] at h
              exact h v hv
            · exact p3 s (by omega) h)
        (by
          rintro ⟨x, U⟩ ⟨p1, p2, p3⟩
          dsimp only at p1 p2 ⊢
          subst p1
          have XU : XSt T F b U := XSt_fl hX (FL_two p2)
          refine ⟨.inr U, ?_, Or.inr ⟨U, rfl, p2, ?_⟩⟩
          · unfold f3_weighingsFor_L27
            rw [X_sets XU h3, bnp_ok, if_pos (nI_le (Nat.le_refl _) (by omega))]
          · rintro ⟨s, h1, h2⟩
            exact p3 s h1 h2)
        (by omega) ⟨rfl, fun _ _ _ => rfl, fun s hs => absurd hs (Nat.not_lt_zero s)⟩
      rw [k1, bnp_ok]
      rcases k2 with ⟨U, rfl, u1, u2⟩ | ⟨U, rfl, u1, u2⟩
      · exact ⟨1, U, rfl, Or.inr (Or.inl ⟨hk, u2, rfl⟩), u1⟩
      · show ∃ r S', f3_weighingsFor_b55 N (nI j) U = some (r, S') ∧ _
        unfold f3_weighingsFor_b55 f3_weighingsFor_b85
        obtain ⟨r, k1, k2⟩ := lp_invE0 (f := fun u : Int32 × Mem => f3_weighingsFor_L57 N (nI j) u.1 u.2) (s := ((0 : Int32), U)) (N := N)
          (fun i u => u.1 = nI i ∧ (∀ q, q ≠ 54 → q ≠ 56 → u.2 q = S q) ∧ ∀ s, s < i → ¬ s2 T F j s (pA T F b 10000))
          (fun r => (∃ U, r = .inl ((2 : Int32), U) ∧ (∀ q, q ≠ 54 → q ≠ 56 → U q = S q) ∧ P2 T F b j) ∨ ∃ U, r = .inr U ∧ (∀ q, q ≠ 54 → q ≠ 56 → U q = S q) ∧ ¬ P2 T F b j) (2 ^ T)
          (by
            rintro i ⟨x, U⟩ hi ⟨p1, p2, p3⟩
            dsimp only at p1 p2 ⊢
            subst p1
            have TU : TB T F b U := TB_eq hT (fun q hq => p2 q (by revert q; decide) (by revert q; decide))
            have XU : XSt T F b U := XSt_fl hX (FL_two p2)
            obtain ⟨o, V, v1, v2, v3⟩ := X_sure2 (N := N) (s := i) XU hG TU (by omega) hj hN
            have fV : ∀ q, q ≠ 54 → q ≠ 56 → V q = S q := fun q h h' => (v3 q h').trans (p2 q h h')
            unfold f3_weighingsFor_L57
            rw [X_sets XU h3, bnp_ok, if_neg (nI_ge hi (by omega)), v1, bnd_ok]
            rcases v2 with ⟨v4, v5⟩ | ⟨v4, v5⟩
            · exact Or.inr ⟨.inl (2, V), by rw [v4, if_neg (by decide)], Or.inl ⟨V, rfl, fV, i, hi, v5⟩⟩
            · refine Or.inl ⟨(nI (i + 1), V), by rw [v4, if_pos rfl, lt_ok, nI_1], rfl, fV, fun s hs h => ?_⟩
              by_cases e : s = i
              · rw [e] at h
                exact v5 h
              · exact p3 s (by omega) h)
          (by
            rintro ⟨x, U⟩ ⟨p1, p2, p3⟩
            dsimp only at p1 p2 ⊢
            subst p1
            have XU : XSt T F b U := XSt_fl hX (FL_two p2)
            refine ⟨.inr U, ?_, Or.inr ⟨U, rfl, p2, ?_⟩⟩
            · unfold f3_weighingsFor_L57
              rw [X_sets XU h3, bnp_ok, if_pos (nI_le (Nat.le_refl _) (by omega))]
            · rintro ⟨s, h1, h2⟩
              exact p3 s h1 h2)
          (by omega) ⟨rfl, u1, fun s hs => absurd hs (Nat.not_lt_zero s)⟩
        rw [k1, bnp_ok]
        rcases k2 with ⟨U', rfl, y1, y2⟩ | ⟨U', rfl, y1, y2⟩
        · exact ⟨2, U', rfl, Or.inr (Or.inr (Or.inl ⟨hk, u2, y2, rfl⟩)), y1⟩
        · exact ⟨-9, U', rfl, Or.inr (Or.inr (Or.inr ⟨hk, u2, y2, rfl⟩)), y1⟩
