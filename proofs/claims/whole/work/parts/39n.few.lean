theorem M_any {N : Nat} {S : Mem} {B : Nat → Prop} (hB : ∀ v, v < 20 → (B v ∧ (S 68).1 v = 1) ∨ (¬ B v ∧ (S 68).1 v = 0)) (hN : 20 < N) : ∃ r, f10_anyBad N S = some r ∧ ((r = 1 ∧ ∃ v, v < 20 ∧ B v) ∨ (r = 0 ∧ ∀ v, v < 20 → ¬ B v)) := by
  unfold f10_anyBad
  obtain ⟨r, k1, k2⟩ := lp_inv (f := fun u : Int32 × Int32 => f10_anyBad_L4 N u.1 u.2 S) (s := ((0 : Int32), (0 : Int32))) (N := N)
    (fun i u => u.2 = nI i ∧ ((u.1 = 1 ∧ ∃ v, v < i ∧ B v) ∨ (u.1 = 0 ∧ ∀ v, v < i → ¬ B v)))
    (fun r => (r = 1 ∧ ∃ v, v < 20 ∧ B v) ∨ (r = 0 ∧ ∀ v, v < 20 → ¬ B v)) 20
    (by
      rintro i ⟨x, y⟩ hi ⟨hy, h⟩
      dsimp only at hy h ⊢
      subst hy
      unfold f10_anyBad_L4 f10_anyBad_b23 f10_anyBad_b28
      rw [if_neg (show ¬ (20 : Int32) ≤ nI i from nI_ge (b := 20) hi (by decide))]
      rcases h with ⟨rfl, v, h1, h2⟩ | ⟨rfl, h⟩
      · exact ⟨(1, nI (i + 1)), by rw [if_neg (show ¬ (1 : Int32) = 0 by decide), lt_ok, nI_1], rfl, Or.inl ⟨rfl, v, by omega, h2⟩⟩
      · rw [if_pos rfl, if_neg (nI_in hi (by decide)), lt_ok, nI_clamp (by omega)]
        rcases hB i hi with ⟨h1, h2⟩ | ⟨h1, h2⟩
        · exact ⟨(1, nI (i + 1)), by rw [h2, if_neg (show ¬ (1 : Int32) = 0 by decide), lt_ok, nI_1], rfl, Or.inl ⟨rfl, i, by omega, h1⟩⟩
        · refine ⟨(0, nI (i + 1)), by rw [h2, if_pos rfl, lt_ok, nI_1], rfl, Or.inr ⟨rfl, fun v hv => ?_⟩⟩
          by_cases e : v = i
          · rw [e]; exact h1
          · exact h v (by omega))
    (by
      rintro ⟨x, y⟩ ⟨hy, h⟩
      dsimp only at hy h ⊢
      subst hy
      refine ⟨x, ?_, h⟩
      unfold f10_anyBad_L4
      rw [if_pos (by decide)])
    hN ⟨rfl, Or.inr ⟨rfl, fun v hv => absurd hv (Nat.not_lt_zero v)⟩⟩
  rw [k1, bnp_ok]
  unfold f10_anyBad_b35
  refine ⟨r, ?_, k2⟩
  rw [if_pos (k2.elim (fun z => Or.inr z.1) (fun z => Or.inl z.1))]
theorem M_in {N L : Nat} {S : Mem} {B : Nat → Prop} (v1 v2 v4 : Int32) (hB : ∀ v, v < 20 → (B v ∧ (S 68).1 v = 1) ∨ (¬ B v ∧ (S 68).1 v = 0)) (hL : L < 2 ^ 20) (hN : 20 < N) : ∃ r, lp N (fun u : Int32 × Int32 => f10_isEnough_L30 N v1 v2 v4 u.1 u.2 S) (nI L, (0 : Int32)) = some r ∧ ∃ K, r = nI K ∧ K < 2 ^ 20 ∧ ∀ v, K.testBit v = true ↔ L.testBit v = true ∧ B v := by
  refine lp_inv (f := fun u : Int32 × Int32 => f10_isEnough_L30 N v1 v2 v4 u.1 u.2 S) (s := (nI L, (0 : Int32))) (N := N)
    (fun i u => ∃ K, u.1 = nI K ∧ K < 2 ^ 20 ∧ u.2 = nI i ∧ ∀ v, K.testBit v = true ↔ L.testBit v = true ∧ (v < i → B v))
    (fun r => ∃ K, r = nI K ∧ K < 2 ^ 20 ∧ ∀ v, K.testBit v = true ↔ L.testBit v = true ∧ B v) 20 ?_ ?_ hN ⟨L, rfl, hL, rfl, fun v => ⟨fun h => ⟨h, fun z => absurd z (Nat.not_lt_zero v)⟩, fun h => h.1⟩⟩
  · rintro i ⟨x, y⟩ hi ⟨K, hx, hK, hy, h⟩
    dsimp only at hx hy ⊢
    subst hx; subst hy
    unfold f10_isEnough_L30 f10_isEnough_b58
    rw [if_neg (show ¬ (20 : Int32) ≤ nI i from nI_ge (b := 20) hi (by decide)), if_neg (nI_in hi (by decide)), lt_ok, nI_clamp (by omega)]
    rcases hB i hi with ⟨h1, h2⟩ | ⟨h1, h2⟩
    · refine ⟨(nI K, nI (i + 1)), by rw [h2, if_neg (show ¬ (1 : Int32) = 0 by decide), all_I, lt_ok, lt_ok, nI_1], K, rfl, hK, rfl, fun v => ?_⟩
      rw [h v]
      constructor
      · rintro ⟨a1, a2⟩
        refine ⟨a1, fun hv => ?_⟩
        by_cases e : v = i
        · rw [e]; exact h1
        · exact a2 (by omega)
      · rintro ⟨a1, a2⟩
        exact ⟨a1, fun hv => a2 (by omega)⟩
    · refine ⟨(nI (an K (2 ^ i)), nI (i + 1)), by rw [h2, if_pos rfl, shl_nI (by omega), an_I hK, lt_ok, lt_ok, nI_1], an K (2 ^ i), rfl, an_lt, rfl, fun v => ?_⟩
      rw [an_bit hK, p2_bit]
      by_cases e : v = i
      · rw [decide_eq_true e, Bool.not_true, Bool.and_false, e]
        exact ⟨fun z => (by cases z), fun z => absurd (z.2 (by omega)) h1⟩
      · rw [decide_eq_false e, Bool.not_false, Bool.and_true, h v]
        exact ⟨fun z => ⟨z.1, fun hv => z.2 (by omega)⟩, fun z => ⟨z.1, fun hv => z.2 (by omega)⟩⟩
  · rintro ⟨x, y⟩ ⟨K, hx, hK, hy, h⟩
    dsimp only at hx hy ⊢
    subst hx; subst hy
    refine ⟨nI K, ?_, K, rfl, hK, fun v => ?_⟩
    · unfold f10_isEnough_L30
      rw [if_pos (by decide)]
    · rw [h v]
      constructor
      · rintro ⟨a1, a2⟩
        refine ⟨a1, a2 ?_⟩
        by_cases hv : v < 20
        · exact hv
        · rw [b20 hL hv] at a1
          cases a1
      · rintro ⟨a1, a2⟩
        exact ⟨a1, fun _ => a2⟩
theorem M_enough {T F N s j : Nat} {b : Bk} {S : Mem} (h : MSt T F b S) (hG : GSt T F b) (hs : s < 2 ^ T) (hj : j < T ∨ j = 3) (hj4 : j < 4) (hN : 10002 < N) : ∃ r S', f10_isEnough N (nI j) (nI s) S = some (r, S') ∧ FW S S' ∧ ((r = 1 ∧ s2 T F j s (pA T F b 10000)) ∨ (r = 0 ∧ ¬ s2 T F j s (pA T F b 10000))) := by
  have h3 := hG.1
  have p8 := pow3 h3
  have hF2 := hG.2.1
  have hF20 := hG.2.2.1
  unfold f10_isEnough f10_isEnough_b72
  obtain ⟨r, k1, L, k2, k3, k4, k5⟩ := lp_inv (f := fun u : Int32 × Int32 × Mem => f10_isEnough_L6 N (nI j) (nI s) u.1 u.2.1 u.2.2) (s := ((1048575 : Int32), (0 : Int32), S)) (N := N)
    (fun i u => ∃ L, u.1 = nI L ∧ L < 2 ^ 20 ∧ u.2.1 = nI i ∧ FW S u.2.2 ∧ ∀ v, L.testBit v = true ↔ v < 20 ∧ ∀ t, t < i → bd F j s t (pA T F b 10000) v)
    (fun r => ∃ L, r.1 = nI L ∧ L < 2 ^ 20 ∧ FW S r.2 ∧ ∀ v, L.testBit v = true ↔ v < 20 ∧ ∀ t, t < 2 ^ T → bd F j s t (pA T F b 10000) v) (2 ^ T)
    (by
      rintro i ⟨x, y, U⟩ hi ⟨L, p1, p2, p3, p4, p5⟩
      dsimp only at p1 p3 p4 ⊢
      subst p1; subst p3
      have hU := MSt_fw h p4
      obtain ⟨V, v1, v2, v3⟩ := M_part (N := N) (s := s) (t := i) hU hG hs hi hj hj4 hN
      obtain ⟨_, w1, K, rfl, w3, w4⟩ := M_in (N := N) (L := L) (nI j) (nI s) (nI i) v3 p2 (by omega)
      refine ⟨(nI K, nI (i + 1), V), ?_, K, rfl, w3, rfl, FW_tr p4 v2, fun v => ?_⟩
      · unfold f10_isEnough_L6 f10_isEnough_b66
        rw [if_neg (show ¬ ((0 : Int32) < 0 ∨ 2 ≤ (0 : Int32).toNatClampNeg) by decide), lt_ok, c0, hU.1, shl_nI (by omega), if_neg (nI_ge hi (by omega)), v1, bnd_ok, w1, bnp_ok, lt_ok, nI_1]
      · rw [w4, p5]
        constructor
        · rintro ⟨⟨a1, a2⟩, a3⟩
          refine ⟨a1, fun t ht => ?_⟩
          by_cases e : t = i
          · rw [e]; exact a3
          · exact a2 t (by omega)
        · rintro ⟨a1, a2⟩
          exact ⟨⟨a1, fun t ht => a2 t (by omega)⟩, a2 i (Nat.lt_succ_self i)⟩)
    (by
      rintro ⟨x, y, U⟩ ⟨L, p1, p2, p3, p4, p5⟩
      dsimp only at p1 p3 p4 ⊢
      subst p1; subst p3
      refine ⟨(nI L, U), ?_, L, rfl, p2, p4, p5⟩
      unfold f10_isEnough_L6
      rw [if_neg (show ¬ ((0 : Int32) < 0 ∨ 2 ≤ (0 : Int32).toNatClampNeg) by decide), lt_ok, c0, (MSt_fw h p4).1, shl_nI (by omega), if_pos (nI_le (Nat.le_refl _) (by omega))])
    (by omega) ⟨2 ^ 20 - 1, rfl, by decide, rfl, FW_refl S, fun v => by
      rw [Nat.testBit_two_pow_sub_one, decide_eq_true_eq]
      exact ⟨fun h => ⟨h, fun t ht => absurd ht (Nat.not_lt_zero t)⟩, fun h => h.1⟩⟩
  rw [k1, bnp_ok, k2]
  by_cases c : L = 0
  · refine ⟨1, r.2, by rw [if_pos (show nI L = 0 by rw [c]; rfl)], k4, Or.inl ⟨rfl, fun v hv => ?_⟩⟩
    by_cases h : ∃ t, t < 2 ^ T ∧ ¬ bd F j s t (pA T F b 10000) v
    · exact h
    · have := (k5 v).mpr ⟨by omega, fun t ht => by
        by_cases g : bd F j s t (pA T F b 10000) v
        · exact g
        · exact absurd ⟨t, ht, g⟩ h⟩
      rw [c, Nat.zero_testBit] at this
      cases this
  · refine ⟨0, r.2, by rw [if_neg (show ¬ nI L = 0 from ne_nI (b := 0) (by omega) (by decide) c)], k4, Or.inr ⟨rfl, fun h => c ?_⟩⟩
    apply Nat.eq_of_testBit_eq
    intro v
    rw [Nat.zero_testBit]
    apply eq_false_of_ne_true
    intro g
    obtain ⟨g1, g2⟩ := (k5 v).mp g
    have hv := bd_lt (show 0 < F by omega) (g2 0 (by omega))
    obtain ⟨t, t1, t2⟩ := h v hv
    exact t2 (g2 t t1)
theorem one_b10 : ∀ n, n < 1024 → ((nI n &&& (nI n - 1) = 0) ↔ (n = 0 ∨ n = 1 ∨ n = 2 ∨ n = 4 ∨ n = 8 ∨ n = 16 ∨ n = 32 ∨ n = 64 ∨ n = 128 ∨ n = 256 ∨ n = 512)) := by decide +kernel
theorem one_pow {n : Nat} (hn : n < 1024) : (nI n &&& (nI n - 1) = 0) ↔ (n = 0 ∨ ∃ w, w < 10 ∧ n = 2 ^ w) := by
  rw [one_b10 n hn]
  constructor
  · rintro (h | h | h | h | h | h | h | h | h | h | h)
    · exact Or.inl h
    · exact Or.inr ⟨0, by decide, h⟩
    · exact Or.inr ⟨1, by decide, h⟩
    · exact Or.inr ⟨2, by decide, h⟩
    · exact Or.inr ⟨3, by decide, h⟩
    · exact Or.inr ⟨4, by decide, h⟩
    · exact Or.inr ⟨5, by decide, h⟩
    · exact Or.inr ⟨6, by decide, h⟩
    · exact Or.inr ⟨7, by decide, h⟩
    · exact Or.inr ⟨8, by decide, h⟩
    · exact Or.inr ⟨9, by decide, h⟩
  · rintro (h | ⟨w, hw, h⟩)
    · exact Or.inl h
    · rcases (show w = 0 ∨ w = 1 ∨ w = 2 ∨ w = 3 ∨ w = 4 ∨ w = 5 ∨ w = 6 ∨ w = 7 ∨ w = 8 ∨ w = 9 by omega) with rfl | rfl | rfl | rfl | rfl | rfl | rfl | rfl | rfl | rfl <;> simp [h]
theorem M_known {T F N j : Nat} {b : Bk} {S : Mem} (h : MSt T F b S) (hG : GSt T F b) (hj : j < T ∨ j = 3) (hj4 : j < 4) (hN : 10002 < N) : ∃ r S', f10_isKnown N (nI j) S = some (r, S') ∧ FW S S' ∧ ((r = 1 ∧ kn T F b j) ∨ (r = 0 ∧ ¬ kn T F b j)) := by
  have hT := hG.1
  have hnW := nW_le hT
  unfold f10_isKnown f10_isKnown_b41
  obtain ⟨q, k1, k2, k3⟩ := lp_inv (f := fun s : Int32 × Int32 × Mem => f10_isKnown_L4 N (nI j) s.1 s.2.1 s.2.2) (s := ((0 : Int32), (0 : Int32), S)) (N := N)
    (fun i s => s.1 = nI (oM T F b j i) ∧ s.2.1 = nI i ∧ FW S s.2.2)
    (fun s => s.1 = nI (oM T F b j (nW T)) ∧ FW S s.2) (nW T)
    (by
      rintro c ⟨x, y, U⟩ hc ⟨hx, hy, u1⟩
      dsimp only at hx hy u1 ⊢
      subst hx; subst hy
      have hU := MSt_fw h u1
      obtain ⟨V, w1, w2, w3⟩ := M_canBe (N := N) hU hG hc (by omega)
      have hph := (ph_ps hT hc).1
      refine ⟨(nI (oM T F b j (c + 1)), nI (c + 1), V), ?_, rfl, rfl, FW_tr u1 (FW_65 w3)⟩
      unfold f10_isKnown_L4 f10_isKnown_b33
      rw [M_worlds hU hG (by omega), bnp_ok, if_neg (nI_ge hc (by omega)), w1, bnd_ok]
      by_cases hm : mis F b (ph T c) = 0
      · have hd := dg_lt (i := j) hph
        rw [if_pos hm, if_neg (show ¬ (1 : Int32) = 0 by decide), if_neg (nI_in hj4 (by decide)), lt_ok, nI_clamp (by omega), MW_at w2 hj, lt_ok, lt_ok, nI_1, shl_nI (by omega), fa_or, oM_yes hph hm]
      · rw [if_neg hm, if_pos rfl, lt_ok, lt_ok, nI_1, oM_no hm, show (0 : Int32) = nI 0 from rfl, fa_or, Nat.or_zero])
    (by
      rintro ⟨x, y, U⟩ ⟨hx, hy, u1⟩
      dsimp only at hx hy u1 ⊢
      subst hx; subst hy
      refine ⟨(nI (oM T F b j (nW T)), U), ?_, rfl, u1⟩
      unfold f10_isKnown_L4
      rw [M_worlds (MSt_fw h u1) hG (by omega), bnp_ok, if_pos (nI_le (Nat.le_refl _) (by omega))])
    (by omega) ⟨rfl, rfl, FW_refl S⟩
  rw [oM_all hT] at k2
  rw [k1, bnp_ok, k2]
  have hq := one_pow (oW_lt (T := T) (F := F) (b := b) (j := j))
  by_cases c : nI (oW T F b j) &&& (nI (oW T F b j) - 1) = 0
  · exact ⟨1, q.2, by rw [if_pos c], k3, Or.inl ⟨rfl, hq.mp c⟩⟩
  · exact ⟨0, q.2, by rw [if_neg c], k3, Or.inr ⟨rfl, fun z => c (hq.mpr z)⟩⟩
theorem M_few {T F N j : Nat} {b : Bk} {S : Mem} (h : MSt T F b S) (hG : GSt T F b) (hj : j < T ∨ j = 3) (hj4 : j < 4) (hN : 10002 < N) (h1 : f10_isOne N (nI j) S = some 1) : ∃ r S', f10_fewest N (nI j) S = some (r, S') ∧ FW S S' ∧ fwR T F b j r := by
  have h3 := hG.1
  have p8 := pow3 h3
  have hF2 := hG.2.1
  have hF20 := hG.2.2.1
  unfold f10_fewest
  obtain ⟨o, S1, o1, o2, o3⟩ := M_known (N := N) h hG hj hj4 hN
  rw [h1, bnp_ok, if_neg (by decide), o1, bnd_ok]
  rcases o3 with ⟨rfl, o4⟩ | ⟨rfl, o4⟩
  · exact ⟨0, S1, by rw [if_neg (by decide)], o2, Or.inl ⟨o4, rfl⟩⟩
  · rw [if_pos rfl]
    obtain ⟨r, k1, k2⟩ := lp_invE0 (f := fun u : Int32 × Mem => f10_fewest_L22 N (nI j) u.1 u.2) (s := ((0 : Int32), S1)) (N := N)
      (fun i u => u.1 = nI i ∧ FW S u.2 ∧ ∀ s, s < i → ¬ ∀ v, ¬ bd F j s s (pA T F b 10000) v)
      (fun r => (∃ U, r = .inl ((1 : Int32), U) ∧ FW S U ∧ P1 T F b j) ∨ ∃ U, r = .inr U ∧ FW S U ∧ ¬ P1 T F b j) (2 ^ T)
      (by
        rintro i ⟨x, U⟩ hi ⟨p1, p2, p3⟩
        dsimp only at p1 p2 ⊢
        subst p1
        have hU := MSt_fw h p2
        obtain ⟨V, v1, v2, v3⟩ := M_part (N := N) (s := i) (t := i) hU hG hi hi hj hj4 hN
        obtain ⟨o, w1, w2⟩ := M_any (N := N) v3 (by omega)
        have fV := FW_tr p2 v2
        unfold f10_fewest_L22
        rw [if_neg (show ¬ ((0 : Int32) < 0 ∨ 2 ≤ (0 : Int32).toNatClampNeg) by decide), lt_ok, c0, hU.1, shl_nI (by omega), if_neg (nI_ge hi (by omega)), v1, bnd_ok, w1, bnp_ok]
        rcases w2 with ⟨rfl, v, w3, w4⟩ | ⟨rfl, w3⟩
        · refine Or.inl ⟨(nI (i + 1), V), by rw [if_neg (by decide), lt_ok, nI_1], rfl, fV, fun s hs h => ?_⟩
          by_cases e : s = i
          · rw [e] at h
            exact h v w4
          · exact p3 s (by omega) h
        · exact Or.inr ⟨.inl (1, V), by rw [if_pos rfl], Or.inl ⟨V, rfl, fV, i, hi, fun v hv => w3 v (Nat.lt_of_lt_of_le (bd_lt (by omega) hv) hF20) hv⟩⟩)
      (by
        rintro ⟨x, U⟩ ⟨p1, p2, p3⟩
        dsimp only at p1 p2 ⊢
        subst p1
        refine ⟨.inr U, ?_, Or.inr ⟨U, rfl, p2, ?_⟩⟩
        · unfold f10_fewest_L22
          rw [if_neg (show ¬ ((0 : Int32) < 0 ∨ 2 ≤ (0 : Int32).toNatClampNeg) by decide), lt_ok, c0, (MSt_fw h p2).1, shl_nI (by omega), if_pos (nI_le (Nat.le_refl _) (by omega))]
        · rintro ⟨s, h1, h2⟩
          exact p3 s h1 h2)
      (by omega) ⟨rfl, o2, fun s hs => absurd hs (Nat.not_lt_zero s)⟩
    rw [k1, bnp_ok]
    rcases k2 with ⟨U, rfl, u1, u2⟩ | ⟨U, rfl, u1, u2⟩
    · exact ⟨1, U, rfl, u1, Or.inr (Or.inl ⟨o4, u2, rfl⟩)⟩
    · show ∃ r S', f10_fewest_b56 N (nI j) U = some (r, S') ∧ _
      unfold f10_fewest_b56 f10_fewest_b87
      obtain ⟨r, k1, k2⟩ := lp_invE0 (f := fun u : Int32 × Mem => f10_fewest_L58 N (nI j) u.1 u.2) (s := ((0 : Int32), U)) (N := N)
        (fun i u => u.1 = nI i ∧ FW S u.2 ∧ ∀ s, s < i → ¬ s2 T F j s (pA T F b 10000))
        (fun r => (∃ U, r = .inl ((2 : Int32), U) ∧ FW S U ∧ P2 T F b j) ∨ ∃ U, r = .inr U ∧ FW S U ∧ ¬ P2 T F b j) (2 ^ T)
        (by
          rintro i ⟨x, U⟩ hi ⟨p1, p2, p3⟩
          dsimp only at p1 p2 ⊢
          subst p1
          have hU := MSt_fw h p2
          obtain ⟨o, V, v1, v2, v3⟩ := M_enough (N := N) (s := i) hU hG hi hj hj4 hN
          have fV := FW_tr p2 v2
          unfold f10_fewest_L58
          rw [if_neg (show ¬ ((0 : Int32) < 0 ∨ 2 ≤ (0 : Int32).toNatClampNeg) by decide), lt_ok, c0, hU.1, shl_nI (by omega), if_neg (nI_ge hi (by omega)), v1, bnd_ok]
          rcases v3 with ⟨rfl, w3⟩ | ⟨rfl, w3⟩
          · exact Or.inr ⟨.inl (2, V), by rw [if_neg (by decide)], Or.inl ⟨V, rfl, fV, i, hi, w3⟩⟩
          · refine Or.inl ⟨(nI (i + 1), V), by rw [if_pos rfl, lt_ok, nI_1], rfl, fV, fun s hs h => ?_⟩
            by_cases e : s = i
            · rw [e] at h
              exact w3 h
            · exact p3 s (by omega) h)
        (by
          rintro ⟨x, U⟩ ⟨p1, p2, p3⟩
          dsimp only at p1 p2 ⊢
          subst p1
          refine ⟨.inr U, ?_, Or.inr ⟨U, rfl, p2, ?_⟩⟩
          · unfold f10_fewest_L58
            rw [if_neg (show ¬ ((0 : Int32) < 0 ∨ 2 ≤ (0 : Int32).toNatClampNeg) by decide), lt_ok, c0, (MSt_fw h p2).1, shl_nI (by omega), if_pos (nI_le (Nat.le_refl _) (by omega))]
          · rintro ⟨s, h1, h2⟩
            exact p3 s h1 h2)
        (by omega) ⟨rfl, u1, fun s hs => absurd hs (Nat.not_lt_zero s)⟩
      rw [k1, bnp_ok]
      rcases k2 with ⟨U', rfl, y1, y2⟩ | ⟨U', rfl, y1, y2⟩
      · exact ⟨2, U', rfl, y1, Or.inr (Or.inr (Or.inl ⟨o4, u2, y2, rfl⟩))⟩
      · exact ⟨-9, U', rfl, y1, Or.inr (Or.inr (Or.inr ⟨o4, u2, y2, rfl⟩))⟩
theorem op_fewest {a : Ab} {S : Mem} {N : Nat} (hN : 10002 < N) (hG : GA a) (hX : XA a S) (hM : MA a S) (hC : XCA a S) (i : Int32) : ∃ r S1 S2, f9_fewest N i S = some (r, S1) ∧ f10_fewest N i S1 = some (r, S2) ∧ Kp a S2 := by
  have hG' := GA_GSt hG
  have hT := hG'.1
  obtain ⟨S1, l1, l2, l3⟩ := X_learn hG' (XA_XSt hX) hC (by omega : 400 < N)
  have fl := FL_of l3
  rcases item_cases (N := N) hT hX.2.1.1 hM.2.1.1 i with ⟨j, hj4, hj, rfl, x1, y1⟩ | ⟨x1, y1⟩
  · obtain ⟨r, S2, a1, a2, a3⟩ := X_few (N := N) (XSt_fl (XA_XSt hX) fl) hG' l2 hj4 hj hN
    have fl2 : FL S S2 := FL_tr fl (FL_two a3)
    have T2 : TB a.2.1.1 a.2.1.2.2.2 a.2.2.1 S2 := TB_eq l2 (fun q hq => a3 q (by revert q; decide) (by revert q; decide))
    have hM2 := MA_MSt (MA_fl hM fl2)
    have y1' : f10_isOne N (nI j) S2 = some 1 := by
      rcases item_cases (N := N) (S := S) (S' := S2) hT hX.2.1.1 hM2.1 (nI j) with ⟨_, _, _, _, _, h⟩ | ⟨h, _⟩
      · exact h
      · rw [x1] at h; cases h
    obtain ⟨r', S3, b1, b2, b3⟩ := M_few (N := N) hM2 hG' hj hj4 hN y1'
    refine ⟨r, S2, S3, ?_, ?_, Kp_done hX hM fl2 T2 b2⟩
    · unfold f9_fewest
      rw [x1, bnp_ok, if_neg (by decide), l1, bnd_ok, a1, bnd_ok]
    · rw [b1, fwR_u a2 b3]
  · refine ⟨-1, S, S, ?_, ?_, hX, hM, hC⟩
    · unfold f9_fewest
      rw [x1, bnp_ok, if_pos rfl]
    · unfold f10_fewest
      rw [y1, bnp_ok, if_pos rfl]
