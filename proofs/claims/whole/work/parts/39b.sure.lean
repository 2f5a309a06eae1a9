theorem bsum_or {p : Nat → Bool} {n d : Nat} (hd : d < n) : bsum p n ||| 2 ^ d = bsum (fun w => p w || decide (w = d)) n := by
  apply Nat.eq_of_testBit_eq
  intro j
  rw [Nat.testBit_or, bsum_bit, bsum_bit]
  by_cases e : j = d
  · rw [e, Nat.testBit_two_pow_self, decide_eq_true hd]
    simp
  · rw [Nat.testBit_two_pow_of_ne (fun z => e z.symm), decide_eq_false e]
    simp
theorem bsum_cong {p q : Nat → Bool} {n : Nat} (h : ∀ k, k < n → p k = q k) : bsum p n = bsum q n := fb_sm_cong (fun k hk => by rw [h k hk])
theorem sm_fib {n m : Nat} (P : Nat → Bool) (d g : Nat → Nat) (h : ∀ x, x < n → d x < m) : fb_sm (fun w => fb_sm (fun x => if P x = true ∧ d x = w then g x else 0) n) m = fb_sm (fun x => if P x = true then g x else 0) n := by
  rw [sm_comm]
  refine fb_sm_cong (fun x hx => ?_)
  by_cases hp : P x = true
  · rw [if_pos hp, ← sm_one (fun _ => g x) (h x hx)]
    refine fb_sm_cong (fun w _ => ?_)
    by_cases e : d x = w
    · rw [if_pos ⟨hp, e⟩, if_pos e, sm_one (fun _ => g x) (h x hx)]
    · rw [if_neg (fun z => e z.2), if_neg e]
  · rw [if_neg hp]
    exact sm_none (fun w _ => if_neg (fun z => hp z.1))
/-- which weights an item has in what is left -/
def oW (T F : Nat) (b : Bk) (j : Nat) : Nat := bsum (fun w => decide (0 < fb_sm (gW T F b j w) 10000)) 10
def oM (T F : Nat) (b : Bk) (j n : Nat) : Nat := bsum (fun w => decide (0 < cM T F b (fun x => decide (dg x j = w)) n)) 10
theorem gW_e {T F j w : Nat} {b : Bk} : fb_sm (fun x => if lf T F b x = true ∧ decide (dg x j = w) = true then 1 else 0) 10000 = fb_sm (gW T F b j w) 10000 := fb_sm_cong (fun x _ => by unfold gW; simp only [decide_eq_true_eq])
theorem oM_all {T F j : Nat} {b : Bk} (hT : T ≤ 3) : oM T F b j (nW T) = oW T F b j := by
  unfold oM oW
  refine bsum_cong (fun w _ => ?_)
  rw [cM_all hT, gW_e]
theorem oM_yes {T F j c : Nat} {b : Bk} (hx : ph T c < 10000) (hm : mis F b (ph T c) = 0) : oM T F b j (c + 1) = oM T F b j c ||| 2 ^ dg (ph T c) j := by
  unfold oM
  rw [bsum_or (dg_lt hx)]
  refine bsum_cong (fun w _ => ?_)
  rw [cM_succ]
  by_cases e : w = dg (ph T c) j
  · rw [if_pos ⟨hm, decide_eq_true e.symm⟩, decide_eq_true (by omega), decide_eq_true e, Bool.or_true]
  · rw [if_neg (fun z => e (of_decide_eq_true z.2).symm), decide_eq_false e, Bool.or_false, Nat.add_zero]
theorem oM_no {T F j c : Nat} {b : Bk} (hm : ¬ mis F b (ph T c) = 0) : oM T F b j (c + 1) = oM T F b j c := by
  unfold oM
  refine bsum_cong (fun w _ => ?_)
  rw [cM_succ, if_neg (fun z => hm z.1), Nat.add_zero]
theorem oM_lt {T F j n : Nat} {b : Bk} : oM T F b j n < 1024 := bsum_lt _ _
theorem oW_lt {T F j : Nat} {b : Bk} : oW T F b j < 1024 := bsum_lt _ _
theorem gA_fib {T F j : Nat} {b : Bk} : fb_sm (fun w => fb_sm (gW T F b j w) 10000) 10 = fb_sm (gA T F b) 10000 := by
  have h := sm_fib (n := 10000) (m := 10) (lf T F b) (fun x => dg x j) (fun _ => 1) (fun x hx => dg_lt hx)
  exact h
theorem oW_one {T F j w : Nat} {b : Bk} (hw : w < 10) : oW T F b j = 2 ^ w ↔ (0 < fb_sm (gA T F b) 10000 ∧ fb_sm (gW T F b j w) 10000 = fb_sm (gA T F b) 10000) := by
  have hfib := gA_fib (T := T) (F := F) (j := j) (b := b)
  have hbit : ∀ k, (oW T F b j).testBit k = (decide (k < 10) && decide (0 < fb_sm (gW T F b j k) 10000)) := fun k => bsum_bit _ k 10
  constructor
  · intro h
    rw [h] at hbit
    have hz : ∀ k, k < 10 → k ≠ w → fb_sm (gW T F b j k) 10000 = 0 := by
      intro k hk hne
      have := hbit k
      rw [Nat.testBit_two_pow_of_ne (fun z => hne z.symm), decide_eq_true hk, Bool.true_and] at this
      have := of_decide_eq_false this.symm
      omega
    have hpos : 0 < fb_sm (gW T F b j w) 10000 := by
      have := hbit w
      rw [Nat.testBit_two_pow_self, decide_eq_true hw, Bool.true_and] at this
      exact of_decide_eq_true this.symm
    have e : fb_sm (gW T F b j w) 10000 = fb_sm (gA T F b) 10000 := by
      rw [← hfib, ← sm_one (fun w => fb_sm (gW T F b j w) 10000) hw]
      refine fb_sm_cong (fun k hk => ?_)
      by_cases e : w = k
      · rw [if_pos e]
      · rw [if_neg e, hz k hk (fun z => e z.symm)]
    exact ⟨by omega, e⟩
  · rintro ⟨h1, h2⟩
    have hu := fb_sm_upd (fun w => fb_sm (gW T F b j w) 10000) 0 hw
    rw [hfib, h2, Nat.add_zero] at hu
    have hz := fb_sm_zero (show fb_sm (fun k => if k = w then 0 else fb_sm (gW T F b j k) 10000) 10 = 0 by omega)
    apply Nat.eq_of_testBit_eq
    intro k
    rw [hbit k]
    by_cases e : k = w
    · rw [e, Nat.testBit_two_pow_self, decide_eq_true hw, decide_eq_true (by omega)]; rfl
    · rw [Nat.testBit_two_pow_of_ne (fun z => e z.symm)]
      by_cases hk : k < 10
      · have := hz k hk
        rw [if_neg e] at this
        rw [this, decide_eq_false (Nat.lt_irrefl 0), Bool.and_false]
      · rw [decide_eq_false hk, Bool.false_and]
theorem pow_inj {a b : Nat} (h : 2 ^ a = 2 ^ b) : a = b := by
  rcases Nat.lt_trichotomy a b with g | g | g
  · have : 2 ^ a < 2 ^ b := Nat.pow_lt_pow_right (by decide) g
    omega
  · exact g
  · have : 2 ^ b < 2 ^ a := Nat.pow_lt_pow_right (by decide) g
    omega
theorem tot_le {T F : Nat} {b : Bk} : fb_sm (gA T F b) 10000 ≤ 10000 := by
  have := fb_sm_bound (f := gA T F b) (c := 1) (n := 10000) (fun k _ => gA_le k)
  omega
theorem gW_le {T F j w : Nat} {b : Bk} : fb_sm (gW T F b j w) 10000 ≤ 10000 := by
  have := fb_sm_bound (f := gW T F b j w) (c := 1) (n := 10000) (fun k _ => by unfold gW; split <;> decide)
  omega
/-- the weight that an item surely has -/
def onlyR (T F : Nat) (b : Bk) (j : Nat) (r : Int32) : Prop := (∃ w, w < 10 ∧ oW T F b j = 2 ^ w ∧ r = nI w) ∨ ((∀ w, w < 10 → oW T F b j ≠ 2 ^ w) ∧ r = -9)
theorem onlyR_u {T F j : Nat} {b : Bk} {r r' : Int32} (h : onlyR T F b j r) (h' : onlyR T F b j r') : r = r' := by
  rcases h with ⟨w, h1, h2, h3⟩ | ⟨h1, h2⟩
  · rcases h' with ⟨w', g1, g2, g3⟩ | ⟨g1, g2⟩
    · rw [h3, g3, pow_inj (h2.symm.trans g2)]
    · exact absurd h2 (g1 w h1)
  · rcases h' with ⟨w', g1, g2, g3⟩ | ⟨g1, g2⟩
    · exact absurd g2 (h1 w' g1)
    · rw [h2, g2]
theorem X_only {T F j N : Nat} {b : Bk} {S : Mem} (h : TB T F b S) (hj : j < 4) (hN : 20 < N) : ∃ r, f8_onlyWeightOf N (nI j) S = some r ∧ onlyR T F b j r := by
  have ht := tot_le (T := T) (F := F) (b := b)
  unfold f8_onlyWeightOf f8_onlyWeightOf_b43
  obtain ⟨r, k1, k2⟩ := lp_invE0 (f := fun s : Int32 => f8_onlyWeightOf_L2 N (nI j) s S) (s := (0 : Int32)) (N := N)
    (fun i s => s = nI i ∧ ∀ w, w < i → oW T F b j ≠ 2 ^ w)
    (fun r => (∃ w, w < 10 ∧ oW T F b j = 2 ^ w ∧ r = .inl (nI w)) ∨ ((∀ w, w < 10 → oW T F b j ≠ 2 ^ w) ∧ r = .inr ())) 10
    (by
      rintro i s hi ⟨rfl, h2⟩
      have hg := gW_le (T := T) (F := F) (j := j) (w := i) (b := b)
      have hq := oW_one (T := T) (F := F) (j := j) (b := b) hi
      unfold f8_onlyWeightOf_L2 f8_onlyWeightOf_b37
      rw [if_neg (show ¬ (9 : Int32) < nI i from nI_nlt (a := 9) (by omega) (by decide)), h.2.1, show (10 : Int32) = nI 10 from rfl, pk_mul, nI_add, f5_get_in (by omega) (by decide), bnp_ok, h.2.2.2.2.2.1 j i hj hi, lt_ok, nI_1]
      by_cases c0 : fb_sm (gA T F b) 10000 = 0
      · refine Or.inl ⟨nI (i + 1), by rw [if_pos (show nI (fb_sm (gA T F b) 10000) ≤ 0 by rw [c0]; decide)], rfl, fun w hw => ?_⟩
        by_cases e : w = i
        · rw [e]
          intro z
          have := (hq.mp z).1
          omega
        · exact h2 w (by omega)
      · rw [if_neg (show ¬ nI (fb_sm (gA T F b) 10000) ≤ 0 from nI_nle (by omega) (by omega))]
        by_cases c1 : fb_sm (gW T F b j i) 10000 = fb_sm (gA T F b) 10000
        · exact Or.inr ⟨.inl (nI i), by rw [if_pos (by rw [c1])], Or.inl ⟨i, hi, hq.mpr ⟨by omega, c1⟩, rfl⟩⟩
        · refine Or.inl ⟨nI (i + 1), by rw [if_neg (ne_nI (by omega) (by omega) c1)], rfl, fun w hw => ?_⟩
          by_cases e : w = i
          · rw [e]
            exact fun z => c1 (hq.mp z).2
          · exact h2 w (by omega))
    (by
      rintro s ⟨rfl, h2⟩
      refine ⟨.inr (), ?_, Or.inr ⟨h2, rfl⟩⟩
      unfold f8_onlyWeightOf_L2
      rw [if_pos (by decide)])
    (by omega) ⟨rfl, fun w hw => absurd hw (Nat.not_lt_zero w)⟩
  rw [k1, bnp_ok]
  rcases k2 with ⟨w, g1, g2, rfl⟩ | ⟨g1, rfl⟩
  · exact ⟨nI w, rfl, Or.inl ⟨w, g1, g2, rfl⟩⟩
  · exact ⟨-9, rfl, Or.inr ⟨g1, rfl⟩⟩
theorem op_sure {a : Ab} {S : Mem} {N : Nat} (hN : 10001 < N) (hG : GA a) (hX : XA a S) (hM : MA a S) (hC : XCA a S) (i : Int32) : ∃ r S1 S2, f9_sure N i S = some (r, S1) ∧ f10_sure N i S1 = some (r, S2) ∧ Kp a S2 := by
  have hG' := GA_GSt hG
  have hT := hG'.1
  have hnW := nW_le hT
  obtain ⟨S1, l1, l2, l3⟩ := X_learn hG' (XA_XSt hX) hC (by omega : 400 < N)
  have fl := FL_of l3
  have hMs := MA_MSt (MA_fl hM fl)
  have known : f9_known N S = some ((), S1) := by
    unfold f9_known
    rw [l1, bnd_ok]
  rcases item_cases (N := N) hT hX.2.1.1 hMs.1 i with ⟨j, hj4, hj, rfl, x1, y1⟩ | ⟨x1, y1⟩
  · obtain ⟨r, x2, x3⟩ := X_only (N := N) l2 hj4 (by omega)
    obtain ⟨q, k1, k2, k3⟩ := lp_inv (f := fun s : Int32 × Int32 × Mem => f10_sure_L14 N (nI j) s.1 s.2.1 s.2.2) (s := ((0 : Int32), (0 : Int32), S1)) (N := N)
      (fun i s => s.1 = nI (oM a.2.1.1 a.2.1.2.2.2 a.2.2.1 j i) ∧ s.2.1 = nI i ∧ FW S1 s.2.2)
      (fun s => s.1 = nI (oM a.2.1.1 a.2.1.2.2.2 a.2.2.1 j (nW a.2.1.1)) ∧ FW S1 s.2) (nW a.2.1.1)
      (by
        rintro c ⟨x, y, U⟩ hc ⟨hx, hy, u1⟩
        dsimp only at hx hy u1 ⊢
        subst hx; subst hy
        have hU := MSt_fw hMs u1
        obtain ⟨V, w1, w2, w3⟩ := M_canBe (N := N) hU hG' hc (by omega)
        have hph := (ph_ps hT hc).1
        refine ⟨(nI (oM a.2.1.1 a.2.1.2.2.2 a.2.2.1 j (c + 1)), nI (c + 1), V), ?_, rfl, rfl, FW_tr u1 (FW_65 w3)⟩
        unfold f10_sure_L14 f10_sure_b43
        rw [M_worlds hU hG' (by omega), bnp_ok, if_neg (nI_ge hc (by omega)), w1, bnd_ok]
        by_cases hm : mis a.2.1.2.2.2 a.2.2.1 (ph a.2.1.1 c) = 0
        · have hd := dg_lt (i := j) hph
          rw [if_pos hm, if_neg (show ¬ (1 : Int32) = 0 by decide), if_neg (nI_in hj4 (by decide)), lt_ok, nI_clamp (by omega), MW_at w2 hj, lt_ok, lt_ok, nI_1, shl_nI (by omega), fa_or, oM_yes hph hm]
        · rw [if_neg hm, if_pos rfl, lt_ok, lt_ok, nI_1, oM_no hm, show (0 : Int32) = nI 0 from rfl, fa_or, Nat.or_zero])
      (by
        rintro ⟨x, y, U⟩ ⟨hx, hy, u1⟩
        dsimp only at hx hy u1 ⊢
        subst hx; subst hy
        refine ⟨(nI (oM a.2.1.1 a.2.1.2.2.2 a.2.2.1 j (nW a.2.1.1)), U), ?_, rfl, u1⟩
        unfold f10_sure_L14
        rw [M_worlds (MSt_fw hMs u1) hG' (by omega), bnp_ok, if_pos (nI_le (Nat.le_refl _) (by omega))])
      (by omega) ⟨rfl, rfl, FW_refl S1⟩
    rw [oM_all hT] at k2
    have hoW := oW_lt (T := a.2.1.1) (F := a.2.1.2.2.2) (b := a.2.2.1) (j := j)
    obtain ⟨p, n1, n2⟩ := lp_inv (f := fun s : Int32 × Int32 => f10_sure_L57 N (nI (oW a.2.1.1 a.2.1.2.2.2 a.2.2.1 j)) s.1 s.2 q.2) (s := ((-9 : Int32), (0 : Int32))) (N := N)
      (fun i s => s.2 = nI i ∧ ((∃ w, w < i ∧ oW a.2.1.1 a.2.1.2.2.2 a.2.2.1 j = 2 ^ w ∧ s.1 = nI w) ∨ ((∀ w, w < i → oW a.2.1.1 a.2.1.2.2.2 a.2.2.1 j ≠ 2 ^ w) ∧ s.1 = -9)))
      (fun r => onlyR a.2.1.1 a.2.1.2.2.2 a.2.2.1 j r) 10
      (by
        rintro i ⟨x, y⟩ hi ⟨hy, u1⟩
        dsimp only at hy u1 ⊢
        subst hy
        have h2 : 2 ^ i < 2 ^ 31 := Nat.pow_lt_pow_right (by decide) (by omega)
        unfold f10_sure_L57 f10_sure_b78
        rw [if_neg (show ¬ (10 : Int32) ≤ nI i from nI_ge (b := 10) hi (by decide)), shl_nI (by omega)]
        by_cases e : oW a.2.1.1 a.2.1.2.2.2 a.2.2.1 j = 2 ^ i
        · refine ⟨(nI i, nI (i + 1)), by rw [if_pos (by rw [e]), lt_ok, nI_1], rfl, Or.inl ⟨i, by omega, e, rfl⟩⟩
        · refine ⟨(x, nI (i + 1)), by rw [if_neg (ne_nI (by omega) h2 e), lt_ok, nI_1], rfl, ?_⟩
          rcases u1 with ⟨w, g1, g2, g3⟩ | ⟨g1, g2⟩
          · exact Or.inl ⟨w, by omega, g2, g3⟩
          · refine Or.inr ⟨fun w hw => ?_, g2⟩
            by_cases e2 : w = i
            · rw [e2]; exact e
            · exact g1 w (by omega))
      (by
        rintro ⟨x, y⟩ ⟨hy, u1⟩
        dsimp only at hy u1 ⊢
        subst hy
        refine ⟨x, ?_, u1⟩
        unfold f10_sure_L57
        rw [if_pos (by decide)])
      (by omega) ⟨rfl, Or.inr ⟨fun w hw => absurd hw (Nat.not_lt_zero w), rfl⟩⟩
    refine ⟨r, S1, q.2, ?_, ?_, Kp_done hX hM fl l2 k3⟩
    · unfold f9_sure
      rw [x1, bnp_ok, if_neg (by decide), known, bnd_ok, x2, bnp_ok]
    · unfold f10_sure f10_sure_b51 f10_sure_b85
      rw [y1, bnp_ok, if_neg (by decide), k1, bnp_ok]
      rw [k2, n1, bnp_ok, onlyR_u x3 n2]
  · refine ⟨-1, S, S, ?_, ?_, hX, hM, hC⟩
    · unfold f9_sure
      rw [x1, bnp_ok, if_pos rfl]
    · have y1' : f10_isOne N i S = some 0 := by
        rcases item_cases (N := N) (S := S) (S' := S) hT hX.2.1.1 hM.2.1.1 i with ⟨_, _, _, _, h, _⟩ | ⟨_, h⟩
        · rw [x1] at h; cases h
        · exact h
      unfold f10_sure
      rw [y1', bnp_ok, if_pos rfl]
