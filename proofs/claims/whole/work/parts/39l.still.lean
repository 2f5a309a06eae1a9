/-! FEWEST: WHAT NO WEIGHING CAN TELL. A world whose item weighs what is left over alike shows all the same. -/
theorem am_ {F a a' b b' : Nat} (h : a % F = a' % F) (g : b % F = b' % F) : (a + b) % F = (a' + b') % F := by
  rw [Nat.add_mod, h, g, ← Nat.add_mod]
theorem mm_ {F e b b' : Nat} (h : b % F = b' % F) : e * b % F = e * b' % F := by
  rw [Nat.mul_mod, h, ← Nat.mul_mod]
theorem cn_ {F o a a' : Nat} (hF : 0 < F) (h : (o + a) % F = (o + a') % F) : a % F = a' % F := by
  have k : (F - o % F + (o + a)) % F = (F - o % F + (o + a')) % F := am_ rfl h
  have e : ∀ u, (F - o % F + (o + u)) % F = u % F := fun u => by
    have h1 : o % F < F := Nat.mod_lt _ hF
    have h2 : F - o % F + (o + u) = u + F * (o / F + 1) := by
      have h3 := Nat.div_add_mod o F
      rw [Nat.mul_add, Nat.mul_one]
      omega
    rw [h2, Nat.add_mul_mod_self_left]
  rw [e, e] at k
  exact k
theorem ld_dg (x s : Nat) : ld x s = dg x 3 + bt2 s 0 * dg x 0 + bt2 s 1 * dg x 1 + bt2 s 2 * dg x 2 := rfl
theorem ld_cg {F x z : Nat} (h : ∀ i, i < 4 → dg z i % F = dg x i % F) (s : Nat) : ld z s % F = ld x s % F := by
  rw [ld_dg, ld_dg]
  exact am_ (am_ (am_ (h 3 (by decide)) (mm_ (h 0 (by decide)))) (mm_ (h 1 (by decide)))) (mm_ (h 2 (by decide)))
theorem ld_none (x : Nat) : ld x 0 = dg x 3 := by
  rw [ld_dg, show bt2 0 0 = 0 from rfl, show bt2 0 1 = 0 from rfl, show bt2 0 2 = 0 from rfl]
  omega
theorem ld_alone (x : Nat) {j : Nat} (hj : j < 3) : ld x (2 ^ j) = dg x 3 + dg x j := by
  rw [ld_dg]
  rcases (show j = 0 ∨ j = 1 ∨ j = 2 by omega) with rfl | rfl | rfl
  · rw [show bt2 (2 ^ 0) 0 = 1 from rfl, show bt2 (2 ^ 0) 1 = 0 from rfl, show bt2 (2 ^ 0) 2 = 0 from rfl]
    omega
  · rw [show bt2 (2 ^ 1) 0 = 0 from rfl, show bt2 (2 ^ 1) 1 = 1 from rfl, show bt2 (2 ^ 1) 2 = 0 from rfl]
    omega
  · rw [show bt2 (2 ^ 2) 0 = 0 from rfl, show bt2 (2 ^ 2) 1 = 0 from rfl, show bt2 (2 ^ 2) 2 = 1 from rfl]
    omega
theorem vd_dg {T x : Nat} : vd T x = true ↔ ∀ i, i < 3 → (i < T ↔ 1 ≤ dg x i) := by
  unfold vd
  rw [decide_eq_true_eq]
  constructor
  · rintro ⟨h0, h1, h2⟩ i hi
    rcases (show i = 0 ∨ i = 1 ∨ i = 2 by omega) with rfl | rfl | rfl
    · exact h0
    · exact h1
    · exact h2
  · intro h
    exact ⟨h 0 (by decide), h 1 (by decide), h 2 (by decide)⟩
theorem rp_ex {x j w : Nat} (hx : x < 10000) (hj : j < 4) (hw : w < 10) : ∃ z, z < 10000 ∧ dg z j = w ∧ ∀ i, i < 4 → i ≠ j → dg z i = dg x i := by
  have d0 : x / 1000 < 10 := by omega
  have d1 : x / 100 % 10 < 10 := Nat.mod_lt _ (by decide)
  have d2 : x / 10 % 10 < 10 := Nat.mod_lt _ (by decide)
  have d3 : x % 10 < 10 := Nat.mod_lt _ (by decide)
  have key : ∀ a b c o, a < 10 → b < 10 → c < 10 → o < 10 → ∃ z, z < 10000 ∧ dg z 0 = a ∧ dg z 1 = b ∧ dg z 2 = c ∧ dg z 3 = o := by
    intro a b c o ha hb hc ho
    obtain ⟨e0, e1, e2, e3⟩ := x_dec (a := a) hb hc ho rfl
    exact ⟨_, by omega, e0, e1, e2, e3⟩
  rcases (show j = 0 ∨ j = 1 ∨ j = 2 ∨ j = 3 by omega) with rfl | rfl | rfl | rfl
  · obtain ⟨z, hz, e0, e1, e2, e3⟩ := key w _ _ _ hw d1 d2 d3
    refine ⟨z, hz, e0, fun i hi hn => ?_⟩
    rcases (show i = 1 ∨ i = 2 ∨ i = 3 by omega) with rfl | rfl | rfl
    · exact e1
    · exact e2
    · exact e3
  · obtain ⟨z, hz, e0, e1, e2, e3⟩ := key _ w _ _ d0 hw d2 d3
    refine ⟨z, hz, e1, fun i hi hn => ?_⟩
    rcases (show i = 0 ∨ i = 2 ∨ i = 3 by omega) with rfl | rfl | rfl
    · exact e0
    · exact e2
    · exact e3
  · obtain ⟨z, hz, e0, e1, e2, e3⟩ := key _ _ w _ d0 d1 hw d3
    refine ⟨z, hz, e2, fun i hi hn => ?_⟩
    rcases (show i = 0 ∨ i = 1 ∨ i = 3 by omega) with rfl | rfl | rfl
    · exact e0
    · exact e1
    · exact e3
  · obtain ⟨z, hz, e0, e1, e2, e3⟩ := key _ _ _ w d0 d1 d2 hw
    refine ⟨z, hz, e3, fun i hi hn => ?_⟩
    rcases (show i = 0 ∨ i = 1 ∨ i = 2 by omega) with rfl | rfl | rfl
    · exact e0
    · exact e1
    · exact e2
theorem lgl_cg {F w u m m' : Nat} (h : m % F = m' % F) : lgl F w u m = lgl F w u m' := by
  unfold lgl
  rw [h, show (m + 1) % F = (m' + 1) % F from am_ h rfl]
/-- two worlds left, in which an item weighs the same left over and yet not the same: then any two weighings are torn -/
theorem bd_any {T F j x y : Nat} {b : Bk} (hj : j < 4) (hx : pA T F b 10000 x) (hy : pA T F b 10000 y) (hd : dg x j ≠ dg y j) (hm : dg x j % F = dg y j % F) (s t : Nat) : bd F j s t (pA T F b 10000) (ld x s % F) := by
  obtain ⟨z, z1, z2, z3⟩ := rp_ex hx.1 hj (dg_lt (i := j) hy.1)
  have hz : ∀ i, i < 4 → dg z i % F = dg x i % F := by
    intro i hi
    by_cases e : i = j
    · rw [e, z2, hm]
    · rw [z3 i hi e]
  have hlz : lf T F b z = true := by
    have h1 := hx.2
    have h2 := lf_v2 hy.2
    have h3 := lf_v2 hx.2
    have h4 := lf_mis hx.2
    unfold lf
    rw [Bool.and_eq_true, decide_eq_true_eq]
    constructor
    · rw [vd_dg] at h2 h3 ⊢
      intro i hi
      by_cases e : i = j
      · have := h2 i hi
        rw [e] at this ⊢
        rw [z2]
        exact this
      · rw [z3 i (by omega) e]
        exact h3 i hi
    · rw [mis_0] at h4 ⊢
      intro k hk
      unfold lgh
      rw [lgl_cg (ld_cg hz _)]
      exact h4 k hk
  exact ⟨x, z, hx, ⟨z1, hlz⟩, rfl, ld_cg hz s, (ld_cg hz t).symm, by rw [z2]; exact hd⟩
theorem P2_not {T F j x y : Nat} {b : Bk} (hF : 0 < F) (hj : j < 4) (hx : pA T F b 10000 x) (hy : pA T F b 10000 y) (hd : dg x j ≠ dg y j) (hm : dg x j % F = dg y j % F) : ¬ P2 T F b j := by
  rintro ⟨s, hs, h⟩
  obtain ⟨t, -, g⟩ := h (ld x s % F) (Nat.mod_lt _ hF)
  exact g (bd_any hj hx hy hd hm s t)
theorem P2_na {T F j : Nat} {b : Bk} (hj : j < T) (h : ∀ v, ¬ bd F j 0 (2 ^ j) (pA T F b 10000) v) : P2 T F b j :=
  ⟨0, Nat.two_pow_pos T, fun v _ => ⟨2 ^ j, Nat.pow_lt_pow_right (by decide) hj, h v⟩⟩
theorem P2_torn {T F j v : Nat} {b : Bk} (hF : 0 < F) (hj : j < 3) (h : bd F j 0 (2 ^ j) (pA T F b 10000) v) : ¬ P2 T F b j := by
  obtain ⟨x, y, hx, hy, h1, h2, h3, h4⟩ := h
  rw [ld_none] at h1 h2
  rw [ld_alone x hj, ld_alone y hj] at h3
  refine P2_not hF (by omega) hx hy h4 (cn_ hF (o := dg y 3) ?_)
  exact (am_ (h2.trans h1.symm) rfl).trans h3
theorem P2_own {T F : Nat} {b : Bk} (hF : 0 < F) (h : ¬ P1 T F b 3) : ¬ P2 T F b 3 := by
  intro g
  apply h
  refine ⟨0, Nat.two_pow_pos T, fun v hv => ?_⟩
  obtain ⟨x, y, hx, hy, h1, h2, -, h4⟩ := hv
  rw [ld_none] at h1 h2
  exact P2_not hF (by decide) hx hy h4 (h1.trans h2.symm) g
/-! FEWEST: THE CLASS, BY NONE AND ALONE -/
theorem ix20 {v r v' r' : Nat} (h : r < 20) (h' : r' < 20) (hn : ¬ (v = v' ∧ r = r')) : v * 20 + r ≠ v' * 20 + r' := by
  intro e
  apply hn
  omega
theorem X_na {T F N j : Nat} {b : Bk} {S : Mem} (hX : XSt T F b S) (hG : GSt T F b) (hT : TB T F b S) (hj : j < 3) (hN : 10002 < N) : ∃ r S', f3_isSureByNoneAndAlone N (nI j) S = some (r, S') ∧ ((r = 1 ∧ ∀ v, ¬ bd F j 0 (2 ^ j) (pA T F b 10000) v) ∨ (r = 0 ∧ ∃ v, bd F j 0 (2 ^ j) (pA T F b 10000) v)) ∧ ∀ q, q ≠ 56 → S' q = S q := by
  have ht := tot_le (T := T) (F := F) (b := b)
  have hF2 := hG.2.1
  have hF20 := hG.2.2.1
  unfold f3_isSureByNoneAndAlone f3_isSureByNoneAndAlone_b80 f8_left
  obtain ⟨S1, w1, w2, w3⟩ := f5_wipe_ok (N := N) (k := 55) (n := 400) (S := S) (by decide) (by omega)
  have e8 : (S1 39).1 8 = nI (fb_sm (gA T F b) 10000) := by rw [w2 39 (by decide)]; exact hT.2.1
  rw [w1, bnd_ok, bnp_ok, e8]
  obtain ⟨r, k1, k2⟩ := lp_invE0 (f := fun t : Int32 × Int32 × Mem => f3_isSureByNoneAndAlone_L20 N (nI j) (nI (fb_sm (gA T F b) 10000)) t.1 t.2.1 t.2.2) (s := ((-1 : Int32), (0 : Int32), S1)) (N := N)
    (fun i t => ∃ p, p ≤ 10000 ∧ fb_sm (gA T F b) p = i ∧ t.1 = nI p - 1 ∧ t.2.1 = nI i ∧ (∀ q, q ≠ 56 → t.2.2 q = S q) ∧ (∀ v r, v < 20 → r < 20 → cl F j 0 (2 ^ j) (pA T F b p) (fun w => nI (2 ^ w)) v r ((t.2.2 56).1 (v * 20 + r))) ∧ ∀ v, ¬ bd F j 0 (2 ^ j) (pA T F b p) v)
    (fun r => (∃ U, r = .inl ((0 : Int32), U) ∧ (∀ q, q ≠ 56 → U q = S q) ∧ ∃ v, bd F j 0 (2 ^ j) (pA T F b 10000) v) ∨ ∃ U, r = .inr U ∧ (∀ q, q ≠ 56 → U q = S q) ∧ ∀ v, ¬ bd F j 0 (2 ^ j) (pA T F b 10000) v) (fb_sm (gA T F b) 10000)
    (by
      rintro i ⟨y, z, U⟩ hi ⟨p, hp, p1, p2, p3, p4, p5, p6⟩
      dsimp only at p2 p3 p4 p5 ⊢
      subst p2; subst p3
      have hy := nx_lt (T := T) (F := F) (b := b) hp (by omega)
      have hyl := nx_yes hp hy
      have hyp := nx_ge (T := T) (F := F) (b := b) (p := p)
      have TU : TB T F b U := TB_eq hT (fun q hq => p4 q (by revert q; decide))
      have XU : XSt T F b U := XSt_fl hX (FL_one p4 (by decide))
      have hA : fb_sm (gA T F b) (nx T F b p + 1) = i + 1 := by
        rw [fb_sm_succ, sm_nx (fun x hx => gA_no hx), p1, gA_yes hyl]
      have hpa := pA_ad hp hy
      have haf := X_after (N := N) TU hp hN
      obtain ⟨x, hx⟩ : ∃ x, x = nx T F b p := ⟨_, rfl⟩
      rw [← hx] at hy hyl hyp hA hpa haf
      have hlt : ld x 0 % F < F := Nat.mod_lt _ (by omega)
      have hlr : ld x (2 ^ j) % F < F := Nat.mod_lt _ (by omega)
      have hd := dg_lt (i := j) hy
      have h5 := p5 (ld x 0 % F) (ld x (2 ^ j) % F) (by omega) (by omega)
      have hj8 : 2 ^ j < 8 := (Nat.pow_lt_pow_right (by decide) hj : 2 ^ j < 2 ^ 3)
      have hun : f3_isSureByNoneAndAlone_L20 N (nI j) (nI (fb_sm (gA T F b) 10000)) (nI p - 1) (nI i) U = bnd (f3_isTorn_55 N (nI (ld x 0 % F * 20 + ld x (2 ^ j) % F)) (nI (dg x j)) U) (fun r7 S8 => if r7 = 0 then lt_ (nI i + 1) (fun x9 => some (.inl (nI x, x9, S8))) else some (.inr (.inl ((0, S8))))) := by
        unfold f3_isSureByNoneAndAlone_L20
        rw [if_neg (nI_ge hi (by omega)), haf, bnp_ok, show (0 : Int32) = nI 0 from rfl, X_shown XU hG hy (by decide), bnp_ok, shl_nI (by omega), X_shown XU hG hy hj8, bnp_ok, show (20 : Int32) = nI 20 from rfl, pk_mul, nI_add, lt_ok, X_dg hy (by omega), bnp_ok]
      have key : ((∀ x', pA T F b p x' → ld x' 0 % F = ld x 0 % F → ld x' (2 ^ j) % F = ld x (2 ^ j) % F → dg x' j = dg x j) ∧ f3_isTorn_55 N (nI (ld x 0 % F * 20 + ld x (2 ^ j) % F)) (nI (dg x j)) U = some (0, wr U 56 (ld x 0 % F * 20 + ld x (2 ^ j) % F) (nI (2 ^ dg x j)))) ∨ (bd F j 0 (2 ^ j) (ad (pA T F b p) x) (ld x 0 % F) ∧ ∃ n, f3_isTorn_55 N (nI (ld x 0 % F * 20 + ld x (2 ^ j) % F)) (nI (dg x j)) U = some (1, wr U 56 (ld x 0 % F * 20 + ld x (2 ^ j) % F) (nI n))) := by
        have t := X_t2 (N := N) (S := U) (v := ld x 0 % F * 20 + ld x (2 ^ j) % F) (by omega) hd
        rcases cl_3 h5 with ⟨c1, c2⟩ | ⟨w, c1, c2, c3, c4⟩ | ⟨w, c1, c2, c3, c4⟩
        · exact Or.inl ⟨c2, t.1 c1⟩
        · exact Or.inl ⟨c4, (t.2 w c1 c2).1 c3⟩
        · exact Or.inr ⟨c4, (t.2 w c1 c2).2 c3⟩
      rw [hun]
      rcases key with ⟨c1, c2⟩ | ⟨c1, n, c2⟩
      · refine Or.inl ⟨(nI x, nI (i + 1), wr U 56 (ld x 0 % F * 20 + ld x (2 ^ j) % F) (nI (2 ^ dg x j))), by rw [c2, bnd_ok, if_pos rfl, lt_ok, nI_1], x + 1, by omega, hA, (nI_pred _).symm, rfl, fun q hq => by dsimp only; rw [wr_ne _ _ _ _ hq]; exact p4 q hq, fun v r hv hr => ?_, fun v => ?_⟩
        · dsimp only
          rw [hpa]
          by_cases e : v = ld x 0 % F ∧ r = ld x (2 ^ j) % F
          · rw [e.1, e.2, wr_val]
            exact cl_put hd c1
          · rw [wr_oth (ix20 hr (by omega) e)]
            exact cl_oth e (p5 v r hv hr)
        · rw [hpa, bd_ok c1]
          exact p6 v
      · refine Or.inr ⟨.inl (0, wr U 56 (ld x 0 % F * 20 + ld x (2 ^ j) % F) (nI n)), by rw [c2, bnd_ok, if_neg (by decide)], Or.inl ⟨_, rfl, fun q hq => by rw [wr_ne _ _ _ _ hq]; exact p4 q hq, ld x 0 % F, bd_sub (fun y hy' => ?_) c1⟩⟩
        rw [← hpa] at hy'
        exact pA_sub (by omega) y hy')
    (by
      rintro ⟨y, z, U⟩ ⟨p, hp, p1, p2, p3, p4, p5, p6⟩
      dsimp only at p2 p3 p4 p5 ⊢
      subst p2; subst p3
      refine ⟨.inr U, ?_, Or.inr ⟨U, rfl, p4, fun v => ?_⟩⟩
      · unfold f3_isSureByNoneAndAlone_L20
        rw [if_pos (nI_le (Nat.le_refl _) (by omega))]
      · rw [← pA_all hp p1]
        exact p6 v)
    (by omega) ⟨0, Nat.zero_le _, rfl, rfl, rfl, w2, fun v r hv hr => cl_none pA_0 (w3 _ (by omega)), fun v => bd_none pA_0⟩
  rw [k1, bnp_ok]
  rcases k2 with ⟨U, rfl, u1, u2⟩ | ⟨U, rfl, u1, u2⟩
  · exact ⟨0, U, rfl, Or.inr ⟨rfl, u2⟩, u1⟩
  · exact ⟨1, U, rfl, Or.inl ⟨rfl, u2⟩, u1⟩
/-- FEWEST of the class -/
theorem FL_two {S S' : Mem} (h : ∀ q, q ≠ 54 → q ≠ 56 → S' q = S q) : FL S S' := fun q hq => h q (fun z => hq (by rw [z]; decide)) (fun z => hq (by rw [z]; decide))
theorem X_few {T F N j : Nat} {b : Bk} {S : Mem} (hX : XSt T F b S) (hG : GSt T F b) (hT : TB T F b S) (hj : j < 4) (hjT : j < T ∨ j = 3) (hN : 10002 < N) : ∃ r S', f3_weighingsFor N (nI j) S = some (r, S') ∧ fwR T F b j r ∧ ∀ q, q ≠ 54 → q ≠ 56 → S' q = S q := by
  have h3 := hG.1
  have p8 := pow3 h3
  have ht := tot_le (T := T) (F := F) (b := b)
  unfold f3_weighingsFor f8_left
  rw [bnp_ok, hT.2.1]
  by_cases c0 : fb_sm (gA T F b) 10000 = 0
  · exact ⟨0, S, by rw [if_pos (show nI (fb_sm (gA T F b) 10000) = 0 by rw [c0]; rfl)], Or.inl ⟨Or.inl (oW_0.mpr c0), rfl⟩, fun _ _ _ => rfl⟩
  · rw [if_neg (show ¬ nI (fb_sm (gA T F b) 10000) = 0 from ne_nI (b := 0) (by omega) (by decide) c0)]
    obtain ⟨o, o1, o2⟩ := X_only (N := N) hT hj (by omega)
    rw [o1, bnp_ok]
    rcases o2 with ⟨w, g1, g2, g3⟩ | ⟨g1, g2⟩
    · exact ⟨0, S, by rw [g3, if_neg (ne9 (by omega))], Or.inl ⟨Or.inr ⟨w, g1, g2⟩, rfl⟩, fun _ _ _ => rfl⟩
    · rw [g2, if_pos rfl]
      have hk : ¬ kn T F b j := by
        rintro (z | ⟨w, z1, z2⟩)
        · exact c0 (oW_0.mp z)
        · exact g1 w z1 z2
      obtain ⟨r, k1, k2⟩ := lp_invE0 (f := fun u : Int32 × Mem => f3_weighingsFor_L27 N (nI j) u.1 u.2) (s := ((0 : Int32), S)) (N := N)
        (fun i u => u.1 = nI i ∧ (∀ q, q ≠ 54 → q ≠ 56 → u.2 q = S q) ∧ ∀ s, s < i → ¬ ∀ v, ¬ bd F j s s (pA T F b 10000) v)
        (fun r => (∃ U, r = .inl ((1 : Int32), U) ∧ (∀ q, q ≠ 54 → q ≠ 56 → U q = S q) ∧ P1 T F b j) ∨ ∃ U, r = .inr U ∧ (∀ q, q ≠ 54 → q ≠ 56 → U q = S q) ∧ ¬ P1 T F b j) (2 ^ T)
        (by
          rintro i ⟨x, U⟩ hi ⟨p1, p2, p3⟩
          dsimp only at p1 p2 ⊢
          subst p1
          have TU : TB T F b U := TB_eq hT (fun q hq => p2 q (by revert q; decide) (by revert q; decide))
          have XU : XSt T F b U := XSt_fl hX (FL_two p2)
          obtain ⟨o, V, v1, v2, v3⟩ := X_sure1 (N := N) (s := i) XU hG TU (by omega) hj hN
          have fV : ∀ q, q ≠ 54 → q ≠ 56 → V q = S q := fun q h h' => (v3 q h).trans (p2 q h h')
          unfold f3_weighingsFor_L27
          rw [X_sets XU h3, bnp_ok, if_neg (nI_ge hi (by omega)), v1, bnd_ok]
          rcases v2 with ⟨v4, v5⟩ | ⟨v4, v5⟩
          · exact Or.inr ⟨.inl (1, V), by rw [v4, if_neg (by decide)], Or.inl ⟨V, rfl, fV, i, hi, v5⟩⟩
          · refine Or.inl ⟨(nI (i + 1), V), by rw [v4, if_pos rfl, lt_ok, nI_1], rfl, fV, fun s hs h => ?_⟩
            by_cases e : s = i
            · obtain ⟨v, hv⟩ := v5
              rw [e] at h
              exact h v hv
            · exact p3 s (by omega) h)
        (by
          rintro ⟨x, U⟩ ⟨p1, p2, p3⟩
          dsimp only at p1 p2 ⊢
          subst p1
          have XU : XSt T F b U := XSt_fl hX (FL_two p2)
          refine ⟨.inr U, ?_, Or.inr ⟨U, rfl, p2, ?_⟩⟩
          · unfold f3_weighingsFor_L27
            rw [X_sets XU h3, bnp_ok, if_pos (nI_le (Nat.le_refl _) (by omega))]
          · rintro ⟨s, h1, h2⟩
            exact p3 s h1 h2)
        (by omega) ⟨rfl, fun _ _ _ => rfl, fun s hs => absurd hs (Nat.not_lt_zero s)⟩
      rw [k1, bnp_ok]
      rcases k2 with ⟨U, rfl, u1, u2⟩ | ⟨U, rfl, u1, u2⟩
      · exact ⟨1, U, rfl, Or.inr (Or.inl ⟨hk, u2, rfl⟩), u1⟩
      · show ∃ r S', f3_weighingsFor_b55 N (nI j) U = some (r, S') ∧ _
        unfold f3_weighingsFor_b55
        have hF : 0 < F := by have := hG.2.1; omega
        by_cases c3 : j = 3
        · exact ⟨-9, U, by rw [c3, if_pos (show nI 3 = (3 : Int32) from rfl)], Or.inr (Or.inr (Or.inr ⟨hk, u2, by rw [c3] at u2 ⊢; exact P2_own hF u2, rfl⟩)), u1⟩
        · have TU : TB T F b U := TB_eq hT (fun q hq => u1 q (by revert q; decide) (by revert q; decide))
          have XU : XSt T F b U := XSt_fl hX (FL_two u1)
          obtain ⟨o, V, v1, v2, v3⟩ := X_na (N := N) (j := j) XU hG TU (by omega) hN
          have fV : ∀ q, q ≠ 54 → q ≠ 56 → V q = S q := fun q h h' => (v3 q h').trans (u1 q h h')
          rw [if_neg (show ¬ nI j = (3 : Int32) from ne_nI (b := 3) (by omega) (by decide) c3), v1, bnd_ok]
          rcases v2 with ⟨v4, v5⟩ | ⟨v4, v, v5⟩
          · exact ⟨2, V, by rw [v4, if_neg (by decide)], Or.inr (Or.inr (Or.inl ⟨hk, u2, P2_na (hjT.resolve_right c3) v5, rfl⟩)), fV⟩
          · exact ⟨-9, V, by rw [v4, if_pos rfl], Or.inr (Or.inr (Or.inr ⟨hk, u2, P2_torn hF (by omega) v5, rfl⟩)), fV⟩
