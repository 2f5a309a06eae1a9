/-! FEWEST: THE CLASS -/
theorem or_w {n w : Nat} (hn : n < 1024) (hw : w < 10) : n ||| 2 ^ w < 1024 := Nat.or_lt_two_pow (n := 10) hn (Nat.pow_lt_pow_right (by decide) hw)
theorem X_torn1 {N v w n : Nat} {S : Mem} (hv : v < 20) (hw : w < 10) (hn : n < 1024) (hc : (S 54).1 v = nI n) : f3_isTorn_53 N (nI v) (nI w) S = some (if pop (n ||| 2 ^ w) ≤ 1 then 0 else 1, wr S 54 v (nI (n ||| 2 ^ w))) := by
  unfold f3_isTorn_53
  have h2 := or_w hn hw
  have hp := pop_le (n ||| 2 ^ w)
  rw [shl_nI (by omega), f5_join_in hv (by decide), bnd_ok, f5_get_in hv (by decide), bnp_ok, wr_val, show S (53 + 1) = S 54 from rfl, hc, fa_or, f_bitCount (by omega), bnp_ok]
  by_cases c : pop (n ||| 2 ^ w) ≤ 1
  · rw [if_pos (show nI (pop (n ||| 2 ^ w)) ≤ 1 from nI_le c (by decide)), if_pos c]
  · rw [if_neg (show ¬ nI (pop (n ||| 2 ^ w)) ≤ 1 from nI_ge (a := 1) (by omega) (by omega)), if_neg c]
theorem X_torn2 {N v w n : Nat} {S : Mem} (hv : v < 400) (hw : w < 10) (hn : n < 1024) (hc : (S 56).1 v = nI n) : f3_isTorn_55 N (nI v) (nI w) S = some (if pop (n ||| 2 ^ w) ≤ 1 then 0 else 1, wr S 56 v (nI (n ||| 2 ^ w))) := by
  unfold f3_isTorn_55
  have h2 := or_w hn hw
  have hp := pop_le (n ||| 2 ^ w)
  rw [shl_nI (by omega), f5_join_in hv (by decide), bnd_ok, f5_get_in hv (by decide), bnp_ok, wr_val, show S (55 + 1) = S 56 from rfl, hc, fa_or, f_bitCount (by omega), bnp_ok]
  by_cases c : pop (n ||| 2 ^ w) ≤ 1
  · rw [if_pos (show nI (pop (n ||| 2 ^ w)) ≤ 1 from nI_le c (by decide)), if_pos c]
  · rw [if_neg (show ¬ nI (pop (n ||| 2 ^ w)) ≤ 1 from nI_ge (a := 1) (by omega) (by omega)), if_neg c]
theorem p10 {w : Nat} (hw : w < 10) : 2 ^ w < 1024 := Nat.pow_lt_pow_right (by decide) hw
theorem X_t1 {N v w : Nat} {S : Mem} (hv : v < 20) (hw : w < 10) : ((S 54).1 v = 0 → f3_isTorn_53 N (nI v) (nI w) S = some (0, wr S 54 v (nI (2 ^ w)))) ∧ ∀ w', w' < 10 → (S 54).1 v = nI (2 ^ w') → (w' = w → f3_isTorn_53 N (nI v) (nI w) S = some (0, wr S 54 v (nI (2 ^ w)))) ∧ (w' ≠ w → ∃ n, f3_isTorn_53 N (nI v) (nI w) S = some (1, wr S 54 v (nI n))) := by
  refine ⟨fun h => ?_, fun w' hw' h => ⟨fun e => ?_, fun e => ⟨2 ^ w' ||| 2 ^ w, ?_⟩⟩⟩
  · rw [X_torn1 hv hw (show 0 < 1024 by decide) h, popw0 w hw, if_pos (Nat.le_refl 1), Nat.zero_or]
  · rw [X_torn1 hv hw (p10 hw') h, popw w' hw' w hw, if_pos e, if_pos (Nat.le_refl 1), e, Nat.or_self]
  · rw [X_torn1 hv hw (p10 hw') h, popw w' hw' w hw, if_neg e, if_neg (by decide)]
theorem X_t2 {N v w : Nat} {S : Mem} (hv : v < 400) (hw : w < 10) : ((S 56).1 v = 0 → f3_isTorn_55 N (nI v) (nI w) S = some (0, wr S 56 v (nI (2 ^ w)))) ∧ ∀ w', w' < 10 → (S 56).1 v = nI (2 ^ w') → (w' = w → f3_isTorn_55 N (nI v) (nI w) S = some (0, wr S 56 v (nI (2 ^ w)))) ∧ (w' ≠ w → ∃ n, f3_isTorn_55 N (nI v) (nI w) S = some (1, wr S 56 v (nI n))) := by
  refine ⟨fun h => ?_, fun w' hw' h => ⟨fun e => ?_, fun e => ⟨2 ^ w' ||| 2 ^ w, ?_⟩⟩⟩
  · rw [X_torn2 hv hw (show 0 < 1024 by decide) h, popw0 w hw, if_pos (Nat.le_refl 1), Nat.zero_or]
  · rw [X_torn2 hv hw (p10 hw') h, popw w' hw' w hw, if_pos e, if_pos (Nat.le_refl 1), e, Nat.or_self]
  · rw [X_torn2 hv hw (p10 hw') h, popw w' hw' w hw, if_neg e, if_neg (by decide)]
/-- sure by one weighing -/
theorem X_sure1 {T F N s j : Nat} {b : Bk} {S : Mem} (hX : XSt T F b S) (hG : GSt T F b) (hT : TB T F b S) (hs : s < 8) (hj : j < 4) (hN : 10002 < N) : ∃ r S', f3_isSureBy N (nI s) (nI j) S = some (r, S') ∧ ((r = 1 ∧ ∀ v, ¬ bd F j s s (pA T F b 10000) v) ∨ (r = 0 ∧ ∃ v, bd F j s s (pA T F b 10000) v)) ∧ ∀ q, q ≠ 54 → S' q = S q := by
  have ht := tot_le (T := T) (F := F) (b := b)
  have hF2 := hG.2.1
  have hF20 := hG.2.2.1
  unfold f3_isSureBy f3_isSureBy_b69 f8_left
  obtain ⟨S1, w1, w2, w3⟩ := f5_wipe_ok (N := N) (k := 53) (n := 20) (S := S) (by decide) (by omega)
  have e8 : (S1 39).1 8 = nI (fb_sm (gA T F b) 10000) := by rw [w2 39 (by decide)]; exact hT.2.1
  rw [w1, bnd_ok, bnp_ok, e8]
  obtain ⟨r, k1, k2⟩ := lp_invE0 (f := fun t : Int32 × Int32 × Mem => f3_isSureBy_L21 N (nI s) (nI j) (nI (fb_sm (gA T F b) 10000)) t.1 t.2.1 t.2.2) (s := ((-1 : Int32), (0 : Int32), S1)) (N := N)
    (fun i t => ∃ p, p ≤ 10000 ∧ fb_sm (gA T F b) p = i ∧ t.1 = nI p - 1 ∧ t.2.1 = nI i ∧ (∀ q, q ≠ 54 → t.2.2 q = S q) ∧ (∀ v, v < 20 → cl F j s s (pA T F b p) (fun w => nI (2 ^ w)) v v ((t.2.2 54).1 v)) ∧ ∀ v, ¬ bd F j s s (pA T F b p) v)
    (fun r => (∃ U, r = .inl ((0 : Int32), U) ∧ (∀ q, q ≠ 54 → U q = S q) ∧ ∃ v, bd F j s s (pA T F b 10000) v) ∨ ∃ U, r = .inr U ∧ (∀ q, q ≠ 54 → U q = S q) ∧ ∀ v, ¬ bd F j s s (pA T F b 10000) v) (fb_sm (gA T F b) 10000)
    (by
      rintro i ⟨y, z, U⟩ hi ⟨p, hp, p1, p2, p3, p4, p5, p6⟩
      dsimp only at p2 p3 p4 p5 ⊢
      subst p2; subst p3
      have hy := nx_lt (T := T) (F := F) (b := b) hp (by omega)
      have hyl := nx_yes hp hy
      have hyp := nx_ge (T := T) (F := F) (b := b) (p := p)
      have TU : TB T F b U := TB_eq hT (fun q hq => p4 q (by revert q; decide))
      have XU : XSt T F b U := XSt_fl hX (FL_one p4 (by decide))
      have hA : fb_sm (gA T F b) (nx T F b p + 1) = i + 1 := by
        rw [fb_sm_succ, sm_nx (fun x hx => gA_no hx), p1, gA_yes hyl]
      have hpa := pA_ad hp hy
      have haf := X_after (N := N) TU hp hN
      obtain ⟨x, hx⟩ : ∃ x, x = nx T F b p := ⟨_, rfl⟩
      rw [← hx] at hy hyl hyp hA hpa haf
      have hlt : ld x s % F < F := Nat.mod_lt _ (by omega)
      have hd := dg_lt (i := j) hy
      have h5 := p5 (ld x s % F) (by omega)
      have hun : f3_isSureBy_L21 N (nI s) (nI j) (nI (fb_sm (gA T F b) 10000)) (nI p - 1) (nI i) U = bnd (f3_isTorn_53 N (nI (ld x s % F)) (nI (dg x j)) U) (fun r7 S8 => if r7 = 0 then lt_ (nI i + 1) (fun x9 => some (.inl (nI x, x9, S8))) else some (.inr (.inl ((0, S8))))) := by
        unfold f3_isSureBy_L21
        rw [if_neg (nI_ge hi (by omega)), haf, bnp_ok, X_shown XU hG hy hs, bnp_ok, X_dg hy hj, bnp_ok]
      have key : ((∀ x', pA T F b p x' → ld x' s % F = ld x s % F → ld x' s % F = ld x s % F → dg x' j = dg x j) ∧ f3_isTorn_53 N (nI (ld x s % F)) (nI (dg x j)) U = some (0, wr U 54 (ld x s % F) (nI (2 ^ dg x j)))) ∨ (bd F j s s (ad (pA T F b p) x) (ld x s % F) ∧ ∃ n, f3_isTorn_53 N (nI (ld x s % F)) (nI (dg x j)) U = some (1, wr U 54 (ld x s % F) (nI n))) := by
        have t := X_t1 (N := N) (S := U) (v := ld x s % F) (by omega) hd
        rcases cl_3 h5 with ⟨c1, c2⟩ | ⟨w, c1, c2, c3, c4⟩ | ⟨w, c1, c2, c3, c4⟩
        · exact Or.inl ⟨c2, t.1 c1⟩
        · exact Or.inl ⟨c4, (t.2 w c1 c2).1 c3⟩
        · exact Or.inr ⟨c4, (t.2 w c1 c2).2 c3⟩
      rw [hun]
      rcases key with ⟨c1, c2⟩ | ⟨c1, n, c2⟩
      · refine Or.inl ⟨(nI x, nI (i + 1), wr U 54 (ld x s % F) (nI (2 ^ dg x j))), by rw [c2, bnd_ok, if_pos rfl, lt_ok, nI_1], x + 1, by omega, hA, (nI_pred _).symm, rfl, fun q hq => by dsimp only; rw [wr_ne _ _ _ _ hq]; exact p4 q hq, fun v hv => ?_, fun v => ?_⟩
        · dsimp only
          rw [hpa]
          by_cases e : v = ld x s % F
          · rw [e, wr_val]
            exact cl_put hd c1
          · rw [wr_oth e]
            exact cl_oth (fun z => e z.1) (p5 v hv)
        · rw [hpa, bd_ok c1]
          exact p6 v
      · refine Or.inr ⟨.inl (0, wr U 54 (ld x s % F) (nI n)), by rw [c2, bnd_ok, if_neg (by decide)], Or.inl ⟨_, rfl, fun q hq => by rw [wr_ne _ _ _ _ hq]; exact p4 q hq, ld x s % F, bd_sub (fun y hy' => ?_) c1⟩⟩
        rw [← hpa] at hy'
        exact pA_sub (by omega) y hy')
    (by
      rintro ⟨y, z, U⟩ ⟨p, hp, p1, p2, p3, p4, p5, p6⟩
      dsimp only at p2 p3 p4 p5 ⊢
      subst p2; subst p3
      refine ⟨.inr U, ?_, Or.inr ⟨U, rfl, p4, fun v => ?_⟩⟩
      · unfold f3_isSureBy_L21
        rw [if_pos (nI_le (Nat.le_refl _) (by omega))]
      · rw [← pA_all hp p1]
        exact p6 v)
    (by omega) ⟨0, Nat.zero_le _, rfl, rfl, rfl, w2, fun v hv => cl_none pA_0 (w3 v hv), fun v => bd_none pA_0⟩
  rw [k1, bnp_ok]
  rcases k2 with ⟨U, rfl, u1, u2⟩ | ⟨U, rfl, u1, u2⟩
  · exact ⟨0, U, rfl, Or.inr ⟨rfl, u2⟩, u1⟩
  · exact ⟨1, U, rfl, Or.inl ⟨rfl, u2⟩, u1⟩
