/-! FEWEST: THE MODEL -/
theorem nb0 : vp_nar .boolean (0 : Int32) = 0 := rfl
theorem nb1 : vp_nar .boolean (1 : Int32) = 1 := rfl
theorem M_b143 {N c pl v : Nat} {v1 v2 v3 y w : Int32} {S : Mem} (hv : v < 20) (hp : pl < 400) : f10_part_b143 N v1 v2 v3 (nI c) (nI pl) y w (nI v) S = some (.inl (nI (c + 1), wr (wr S 68 v (vp_nar .boolean w)) 67 pl y)) := by
  unfold f10_part_b143 f10_part_b153
  rw [if_neg (nI_in hv (by decide)), lt_ok, if_neg (nI_in hp (by decide)), lt_ok, lt_ok, nI_1, nI_clamp (show v < 2 ^ 31 by omega), nI_clamp (show pl < 2 ^ 31 by omega)]
def pS (F j s t : Nat) (A : Nat → Prop) (S : Mem) (v : Nat) : Prop := (bd F j s t A v ∧ (S 68).1 v = 1) ∨ (¬ bd F j s t A v ∧ (S 68).1 v = 0 ∧ ∀ r, r < 20 → cl F j s t A (fun w => nI (1 + w)) v r ((S 67).1 (20 * v + r)))
theorem ix21 {v r v' r' : Nat} (h : r < 20) (h' : r' < 20) (hn : ¬ (v = v' ∧ r = r')) : 20 * v + r ≠ 20 * v' + r' := by
  intro e
  apply hn
  omega
/-- one world more -/
theorem M_one {T F N s t j c : Nat} {b : Bk} {S : Mem} (h : MSt T F b S) (hG : GSt T F b) (hs : s < 2 ^ T) (ht : t < 2 ^ T) (hj : j < T ∨ j = 3) (hj4 : j < 4) (hc : c < nW T) (hN : 10002 < N) (hI : ∀ v, v < 20 → pS F j s t (mA T F b c) S v) : ∃ S', f10_part_L52 N (nI j) (nI s) (nI t) (nI c) S = some (.inl (nI (c + 1), S')) ∧ FW S S' ∧ ∀ v, v < 20 → pS F j s t (mA T F b (c + 1)) S' v := by
  have hT := hG.1
  have hnW := nW_le hT
  have hF2 := hG.2.1
  have hF20 := hG.2.2.1
  obtain ⟨V, w1, w2, w3⟩ := M_canBe (N := N) h hG hc (by omega)
  have hph := (ph_ps hT hc).1
  have hV := MSt_fw h (FW_65 w3)
  have iV : ∀ v, v < 20 → pS F j s t (mA T F b c) V v := fun v hv => by
    have := hI v hv
    unfold pS at this ⊢
    rw [w3 67 (by decide), w3 68 (by decide)]
    exact this
  by_cases hm : mis F b (ph T c) = 0
  · obtain ⟨x, hx⟩ : ∃ x, x = ph T c := ⟨_, rfl⟩
    have hma := mA_yes hm
    have hvF : ld (ph T c) s % F < F := Nat.mod_lt _ (by omega)
    have hrF : ld (ph T c) t % F < F := Nat.mod_lt _ (by omega)
    have sh1 := M_shown (N := N) hV hG w2 hph hs (by omega)
    have sh2 := M_shown (N := N) hV hG w2 hph ht (by omega)
    have mw := MW_at w2 hj
    have hd := dg_lt (i := j) hph
    rw [hma]
    rw [← hx] at hvF hrF sh1 sh2 mw hd hph ⊢
    have step : f10_part_L52 N (nI j) (nI s) (nI t) (nI c) S = if (V 68).1 (ld x s % F) = 0 then (if (V 67).1 (20 * (ld x s % F) + ld x t % F) = 0 then f10_part_b143 N (nI j) (nI s) (nI t) (nI c) (nI (20 * (ld x s % F) + ld x t % F)) (nI (1 + dg x j)) 0 (nI (ld x s % F)) V else if (V 67).1 (20 * (ld x s % F) + ld x t % F) = nI (1 + dg x j) then f10_part_b143 N (nI j) (nI s) (nI t) (nI c) (nI (20 * (ld x s % F) + ld x t % F)) (nI (1 + dg x j)) 0 (nI (ld x s % F)) V else f10_part_b143 N (nI j) (nI s) (nI t) (nI c) (nI (20 * (ld x s % F) + ld x t % F)) (nI (1 + dg x j)) 1 (nI (ld x s % F)) V) else f10_part_b143 N (nI j) (nI s) (nI t) (nI c) (nI (20 * (ld x s % F) + ld x t % F)) (nI (1 + dg x j)) 1 (nI (ld x s % F)) V := by
      unfold f10_part_L52 f10_part_b142 f10_part_b138
      rw [M_worlds h hG (by omega), bnp_ok, if_neg (nI_ge hc (by omega)), w1, bnd_ok, if_pos hm, if_neg (show ¬ (1 : Int32) = 0 by decide), sh1, bnp_ok, sh2, bnp_ok, show (20 : Int32) = nI 20 from rfl, pk_mul, nI_add, lt_ok, if_neg (nI_in hj4 (by decide)), lt_ok, nI_clamp (show j < 2 ^ 31 by omega), mw, show (1 : Int32) + nI (dg x j) = nI (1 + dg x j) from nI_add 1 _, lt_ok, if_neg (nI_in (show ld x s % F < 20 by omega) (by decide)), lt_ok, nI_clamp (show ld x s % F < 2 ^ 31 by omega), if_neg (nI_in (show 20 * (ld x s % F) + ld x t % F < 400 by omega) (by decide)), lt_ok, lt_ok, nI_clamp (show 20 * (ld x s % F) + ld x t % F < 2 ^ 31 by omega), if_neg (show ¬ (nI (20 * (ld x s % F) + ld x t % F) < 0 ∨ 400 ≤ 20 * (ld x s % F) + ld x t % F) from fun z => z.elim (fun z => nI_pos (by omega) z) (fun z => by omega))]
    have key : ∃ k : Int32, f10_part_L52 N (nI j) (nI s) (nI t) (nI c) S = some (.inl (nI (c + 1), wr (wr V 68 (ld x s % F) (vp_nar .boolean k)) 67 (20 * (ld x s % F) + ld x t % F) (nI (1 + dg x j)))) ∧ ((k = 1 ∧ bd F j s t (ad (mA T F b c) x) (ld x s % F)) ∨ (k = 0 ∧ ¬ bd F j s t (mA T F b c) (ld x s % F) ∧ (∀ r, r < 20 → cl F j s t (mA T F b c) (fun w => nI (1 + w)) (ld x s % F) r ((V 67).1 (20 * (ld x s % F) + r))) ∧ ∀ x', mA T F b c x' → ld x' s % F = ld x s % F → ld x' t % F = ld x t % F → dg x' j = dg x j)) := by
      rw [step]
      rcases iV (ld x s % F) (by omega) with ⟨i1, i2⟩ | ⟨i1, i2, i3⟩
      · exact ⟨1, by rw [i2, if_neg (show ¬ (1 : Int32) = 0 by decide), M_b143 (by omega) (by omega)], Or.inl ⟨rfl, bd_sub (fun y hy => Or.inl hy) i1⟩⟩
      · rcases cl_3 (i3 (ld x t % F) (by omega)) with ⟨c1, c2⟩ | ⟨w, c1, c2, c3, c4⟩ | ⟨w, c1, c2, c3, c4⟩
        · exact ⟨0, by rw [i2, if_pos rfl, c1, if_pos rfl, M_b143 (by omega) (by omega)], Or.inr ⟨rfl, i1, i3, c2⟩⟩
        · exact ⟨0, by rw [i2, if_pos rfl, c2, if_neg (show ¬ nI (1 + w) = 0 from ne_nI (b := 0) (by omega) (by decide) (by omega)), if_pos (by rw [c3]), M_b143 (by omega) (by omega)], Or.inr ⟨rfl, i1, i3, c4⟩⟩
        · exact ⟨1, by rw [i2, if_pos rfl, c2, if_neg (show ¬ nI (1 + w) = 0 from ne_nI (b := 0) (by omega) (by decide) (by omega)), if_neg (show ¬ nI (1 + w) = nI (1 + dg x j) from ne_nI (by omega) (by omega) (by omega)), M_b143 (by omega) (by omega)], Or.inl ⟨rfl, c4⟩⟩
    obtain ⟨k, k1, k2⟩ := key
    refine ⟨_, k1, FW_tr (FW_65 w3) (FW_tr (FW_wr (by decide)) (FW_wr (by decide))), fun v hv => ?_⟩
    unfold pS
    rw [wr_ne _ _ _ _ (show (68 : Nat) ≠ 67 by decide)]
    by_cases e : v = ld x s % F
    · rw [e, wr_val]
      rcases k2 with ⟨g1, g2⟩ | ⟨g1, g2, g3, g4⟩
      · exact Or.inl ⟨g2, by rw [g1]; exact nb1⟩
      · refine Or.inr ⟨fun z => g2 ((bd_ok g4).mp z), by rw [g1]; exact nb0, fun r hr => ?_⟩
        by_cases e2 : r = ld x t % F
        · rw [e2, wr_val]
          exact cl_put hd g4
        · rw [wr_oth (ix21 hr (by omega) (fun z => e2 z.2)), wr_ne _ _ _ _ (show (67 : Nat) ≠ 68 by decide)]
          exact cl_oth (fun z => e2 z.2) (g3 r hr)
    · rw [wr_oth e]
      rcases iV v hv with ⟨i1, i2⟩ | ⟨i1, i2, i3⟩
      · exact Or.inl ⟨(bd_oth e).mpr i1, i2⟩
      · refine Or.inr ⟨fun z => i1 ((bd_oth e).mp z), i2, fun r hr => ?_⟩
        rw [wr_oth (ix21 hr (by omega) (fun z => e z.1)), wr_ne _ _ _ _ (show (67 : Nat) ≠ 68 by decide)]
        exact cl_oth (fun z => e z.1) (i3 r hr)
  · refine ⟨V, ?_, FW_65 w3, fun v hv => by rw [mA_no hm]; exact iV v hv⟩
    unfold f10_part_L52 f10_part_b153
    rw [M_worlds h hG (by omega), bnp_ok, if_neg (nI_ge hc (by omega)), w1, bnd_ok, if_neg hm, if_pos rfl, lt_ok, nI_1]
theorem M_part {T F N s t j : Nat} {b : Bk} {S : Mem} (h : MSt T F b S) (hG : GSt T F b) (hs : s < 2 ^ T) (ht : t < 2 ^ T) (hj : j < T ∨ j = 3) (hj4 : j < 4) (hN : 10002 < N) : ∃ S', f10_part N (nI j) (nI s) (nI t) S = some ((), S') ∧ FW S S' ∧ ∀ v, v < 20 → (bd F j s t (pA T F b 10000) v ∧ (S' 68).1 v = 1) ∨ (¬ bd F j s t (pA T F b 10000) v ∧ (S' 68).1 v = 0) := by
  have hT := hG.1
  have hnW := nW_le hT
  unfold f10_part f10_part_b25 f10_part_b49 f10_part_b159
  obtain ⟨S1, a1, a2, a3⟩ := lp_inv (f := fun u : Int32 × Mem => f10_part_L3 N (nI j) (nI s) (nI t) u.1 u.2) (s := ((0 : Int32), S)) (N := N)
    (fun i u => u.1 = nI i ∧ FW S u.2 ∧ ∀ r, r < i → (u.2 67).1 r = 0)
    (fun S' => FW S S' ∧ ∀ r, r < 400 → (S' 67).1 r = 0) 400
    (by
      rintro i ⟨x, U⟩ hi ⟨hx, u1, u2⟩
      dsimp only at hx u1 u2 ⊢
      subst hx
      refine ⟨(nI (i + 1), wr U 67 i 0), ?_, rfl, FW_tr u1 (FW_wr (by decide)), fun r hr => ?_⟩
      · unfold f10_part_L3
        rw [if_neg (show ¬ (400 : Int32) ≤ nI i from nI_ge (b := 400) hi (by decide)), if_neg (nI_in hi (by decide)), lt_ok, lt_ok, nI_1, nI_clamp (by omega)]
      · dsimp only
        by_cases e : r = i
        · rw [e, wr_val]
        · rw [wr_oth e]; exact u2 r (by omega))
    (by
      rintro ⟨x, U⟩ ⟨hx, u1, u2⟩
      dsimp only at hx u1 u2 ⊢
      subst hx
      refine ⟨U, ?_, u1, u2⟩
      unfold f10_part_L3
      rw [if_pos (by decide)])
    (by omega) ⟨rfl, FW_refl S, fun r hr => absurd hr (Nat.not_lt_zero r)⟩
  rw [a1, bnp_ok]
  obtain ⟨S2, b1, b2, b3, b4⟩ := lp_inv (f := fun u : Int32 × Mem => f10_part_L28 N (nI j) (nI s) (nI t) u.1 u.2) (s := ((0 : Int32), S1)) (N := N)
    (fun i u => u.1 = nI i ∧ FW S u.2 ∧ u.2 67 = S1 67 ∧ ∀ r, r < i → (u.2 68).1 r = 0)
    (fun S' => FW S S' ∧ S' 67 = S1 67 ∧ ∀ r, r < 20 → (S' 68).1 r = 0) 20
    (by
      rintro i ⟨x, U⟩ hi ⟨hx, u1, u3, u2⟩
      dsimp only at hx u1 u2 u3 ⊢
      subst hx
      refine ⟨(nI (i + 1), wr U 68 i (vp_nar .boolean 0)), ?_, rfl, FW_tr u1 (FW_wr (by decide)), ?_, fun r hr => ?_⟩
      · unfold f10_part_L28
        rw [if_neg (show ¬ (20 : Int32) ≤ nI i from nI_ge (b := 20) hi (by decide)), if_neg (nI_in hi (by decide)), lt_ok, lt_ok, nI_1, nI_clamp (by omega)]
      · dsimp only
        rw [wr_ne _ _ _ _ (by decide)]
        exact u3
      · dsimp only
        by_cases e : r = i
        · rw [e, wr_val]; exact nb0
        · rw [wr_oth e]; exact u2 r (by omega))
    (by
      rintro ⟨x, U⟩ ⟨hx, u1, u3, u2⟩
      dsimp only at hx u1 u2 u3 ⊢
      subst hx
      refine ⟨U, ?_, u1, u3, u2⟩
      unfold f10_part_L28
      rw [if_pos (by decide)])
    (by omega) ⟨rfl, a2, rfl, fun r hr => absurd hr (Nat.not_lt_zero r)⟩
  rw [b1, bnp_ok]
  obtain ⟨S3, d1, d2, d3⟩ := lp_inv (f := fun u : Int32 × Mem => f10_part_L52 N (nI j) (nI s) (nI t) u.1 u.2) (s := ((0 : Int32), S2)) (N := N)
    (fun i u => u.1 = nI i ∧ FW S u.2 ∧ ∀ v, v < 20 → pS F j s t (mA T F b i) u.2 v)
    (fun S' => FW S S' ∧ ∀ v, v < 20 → pS F j s t (mA T F b (nW T)) S' v) (nW T)
    (by
      rintro c ⟨x, U⟩ hc ⟨hx, u1, u2⟩
      dsimp only at hx u1 u2 ⊢
      subst hx
      obtain ⟨V, v1, v2, v3⟩ := M_one (N := N) (MSt_fw h u1) hG hs ht hj hj4 hc hN u2
      exact ⟨(nI (c + 1), V), v1, rfl, FW_tr u1 v2, v3⟩)
    (by
      rintro ⟨x, U⟩ ⟨hx, u1, u2⟩
      dsimp only at hx u1 u2 ⊢
      subst hx
      refine ⟨U, ?_, u1, u2⟩
      unfold f10_part_L52
      rw [M_worlds (MSt_fw h u1) hG (by omega), bnp_ok, if_pos (nI_le (Nat.le_refl _) (by omega))])
    (by omega) ⟨rfl, b2, fun v hv => Or.inr ⟨bd_none mA_0, b4 v hv, fun r hr => cl_none mA_0 (by dsimp only; rw [b3]; exact a3 _ (by omega))⟩⟩
  rw [d1, bnp_ok]
  refine ⟨S3, rfl, d2, fun v hv => ?_⟩
  have := d3 v hv
  unfold pS at this
  rw [mA_all hT] at this
  rcases this with g | ⟨g1, g2, -⟩
  · exact Or.inl g
  · exact Or.inr ⟨g1, g2⟩
