def mx (f : Nat → Nat) : Nat → Nat
  | 0 => 0
  | n + 1 => if mx f n < f n then f n else mx f n
theorem mx_ge {f : Nat → Nat} : ∀ {n r}, r < n → f r ≤ mx f n := by
  intro n
  induction n with
  | zero => intro r h; omega
  | succ n ih =>
    intro r h
    rw [mx]
    by_cases e : r = n
    · rw [e]; split <;> omega
    · have := ih (r := r) (by omega)
      split <;> omega
theorem mx_ex {f : Nat → Nat} : ∀ n, mx f n = 0 ∨ ∃ r, r < n ∧ f r = mx f n := by
  intro n
  induction n with
  | zero => exact Or.inl rfl
  | succ n ih =>
    rw [mx]
    split
    · exact Or.inr ⟨n, by omega, rfl⟩
    · rcases ih with h | ⟨r, h1, h2⟩
      · exact Or.inl h
      · exact Or.inr ⟨r, by omega, h2⟩
theorem mx_char {f : Nat → Nat} {n m : Nat} (h1 : ∀ r, r < n → f r ≤ m) (h2 : m = 0 ∨ ∃ r, r < n ∧ f r = m) : mx f n = m := by
  have a : m ≤ mx f n := by
    rcases h2 with h | ⟨r, h3, h4⟩
    · omega
    · rw [← h4]; exact mx_ge h3
  have b : mx f n ≤ m := by
    rcases mx_ex (f := f) n with h | ⟨r, h3, h4⟩
    · omega
    · rw [← h4]; exact h1 r h3
  omega
theorem mx_cong {f g : Nat → Nat} {n : Nat} (h : ∀ r, r < n → f r = g r) : mx f n = mx g n := by
  refine mx_char (fun r hr => by rw [h r hr]; exact mx_ge hr) ?_
  rcases mx_ex (f := g) n with e | ⟨r, h3, h4⟩
  · exact Or.inl e
  · exact Or.inr ⟨r, h3, by rw [h r h3]; exact h4⟩
theorem mx_le {f : Nat → Nat} {n m : Nat} (h : ∀ r, r < n → f r ≤ m) : mx f n ≤ m := by
  rcases mx_ex (f := f) n with e | ⟨r, h3, h4⟩
  · omega
  · rw [← h4]; exact h r h3
def cS (T F : Nat) (b : Bk) (s r : Nat) : Nat → Nat := fun x => if lf T F b x = true ∧ ld x s % F = r then 1 else 0
theorem cS_no {T F s r x : Nat} {b : Bk} (h : lf T F b x = false) : cS T F b s r x = 0 := by
  unfold cS
  rw [if_neg (fun z => by rw [h] at z; exact absurd z.1 (by decide))]
theorem cS_le {T F s r n : Nat} {b : Bk} : fb_sm (cS T F b s r) n ≤ n := by
  have := fb_sm_bound (f := cS T F b s r) (c := 1) (n := n) (fun k _ => by unfold cS; split <;> decide)
  omega
def wst (T F : Nat) (b : Bk) (s : Nat) : Nat := mx (fun r => fb_sm (cS T F b s r) 10000) 20
theorem wst_le {T F s : Nat} {b : Bk} : wst T F b s ≤ 10000 := mx_le (fun r _ => cS_le)
theorem X_worst {T F N s : Nat} {b : Bk} {S : Mem} (hX : XSt T F b S) (hG : GSt T F b) (hT : TB T F b S) (hs : s < 8) (hN : 10002 < N) : ∃ S', f3_worstOf N (nI s) S = some (nI (wst T F b s), S') ∧ ∀ q, q ≠ 52 → S' q = S q := by
  have ht := tot_le (T := T) (F := F) (b := b)
  have hF2 := hG.2.1
  have hF20 := hG.2.2.1
  unfold f3_worstOf f3_worstOf_b79
  obtain ⟨S1, w1, w2, w3⟩ := f5_wipe_ok (N := N) (k := 51) (n := 20) (S := S) (by decide) (by omega)
  have e8 : (S1 39).1 8 = nI (fb_sm (gA T F b) 10000) := by rw [w2 39 (by decide)]; exact hT.2.1
  unfold f8_left
  rw [w1, bnd_ok, bnp_ok, e8]
  obtain ⟨r, k1, k2, k3⟩ := lp_inv (f := fun t : Int32 × Int32 × Int32 × Mem => f3_worstOf_L23 N (nI s) (nI (fb_sm (gA T F b) 10000)) t.1 t.2.1 t.2.2.1 t.2.2.2) (s := ((0 : Int32), (-1 : Int32), (0 : Int32), S1)) (N := N)
    (fun i t => ∃ p, p ≤ 10000 ∧ fb_sm (gA T F b) p = i ∧ t.1 = nI (mx (fun r => fb_sm (cS T F b s r) p) 20) ∧ t.2.1 = nI p - 1 ∧ t.2.2.1 = nI i ∧ (∀ q, q ≠ 52 → t.2.2.2 q = S q) ∧ ∀ r, r < 20 → (t.2.2.2 52).1 r = nI (fb_sm (cS T F b s r) p))
    (fun r => r.1 = nI (wst T F b s) ∧ ∀ q, q ≠ 52 → r.2 q = S q) (fb_sm (gA T F b) 10000)
    (by
      rintro i ⟨x, y, z, U⟩ hi ⟨p, hp, p1, p2, p3, p4, p5, p6⟩
      dsimp only at p2 p3 p4 p5 p6 ⊢
      subst p2; subst p3; subst p4
      have hy := nx_lt (T := T) (F := F) (b := b) hp (by omega)
      have hyl := nx_yes hp hy
      have hyp := nx_ge (T := T) (F := F) (b := b) (p := p)
      have TU : TB T F b U := TB_eq hT (fun q hq => p5 q (by revert q; decide))
      have XU : XSt T F b U := XSt_fl hX (FL_one p5 (by decide))
      have hlt : ld (nx T F b p) s % F < F := Nat.mod_lt _ (by omega)
      have hc : ∀ r, fb_sm (cS T F b s r) (nx T F b p + 1) = fb_sm (cS T F b s r) p + (if ld (nx T F b p) s % F = r then 1 else 0) := fun r => by
        rw [fb_sm_succ, sm_nx (fun x hx => cS_no hx)]
        unfold cS
        simp only [hyl, true_and]
      have hA : fb_sm (gA T F b) (nx T F b p + 1) = i + 1 := by
        rw [fb_sm_succ, sm_nx (fun x hx => gA_no hx), p1, gA_yes hyl]
      have hcl := cS_le (T := T) (F := F) (b := b) (s := s) (r := ld (nx T F b p) s % F) (n := p)
      have hmx : mx (fun r => fb_sm (cS T F b s r) p) 20 ≤ 10000 := mx_le (fun r _ => Nat.le_trans cS_le hp)
      have hg := mx_ge (f := fun r => fb_sm (cS T F b s r) p) (n := 20) (r := ld (nx T F b p) s % F) (by omega)
      have hm : mx (fun r => fb_sm (cS T F b s r) (nx T F b p + 1)) 20 = if mx (fun r => fb_sm (cS T F b s r) p) 20 < fb_sm (cS T F b s (ld (nx T F b p) s % F)) p + 1 then fb_sm (cS T F b s (ld (nx T F b p) s % F)) p + 1 else mx (fun r => fb_sm (cS T F b s r) p) 20 := by
        refine mx_char (fun r hr => ?_) ?_
        · have h1 := mx_ge (f := fun r => fb_sm (cS T F b s r) p) hr
          rw [hc r]
          by_cases e : ld (nx T F b p) s % F = r
          · rw [if_pos e, ← e]
            split <;> omega
          · rw [if_neg e]
            split <;> omega
        · by_cases c : mx (fun r => fb_sm (cS T F b s r) p) 20 < fb_sm (cS T F b s (ld (nx T F b p) s % F)) p + 1
          · rw [if_pos c]
            exact Or.inr ⟨ld (nx T F b p) s % F, by omega, by rw [hc, if_pos rfl]⟩
          · rw [if_neg c]
            rcases mx_ex (f := fun r => fb_sm (cS T F b s r) p) 20 with e | ⟨r, h3, h4⟩
            · exact Or.inl e
            · refine Or.inr ⟨r, h3, ?_⟩
              rw [hc r]
              by_cases e : ld (nx T F b p) s % F = r
              · rw [e] at c; omega
              · rw [if_neg e]; exact h4
      refine ⟨(nI (mx (fun r => fb_sm (cS T F b s r) (nx T F b p + 1)) 20), nI (nx T F b p), nI (i + 1), wr U 52 (ld (nx T F b p) s % F) (nI (fb_sm (cS T F b s (ld (nx T F b p) s % F)) p + 1))), ?_, nx T F b p + 1, by omega, hA, rfl, (nI_pred _).symm, rfl, fun q hq => ?_, fun r hr => ?_⟩
      · unfold f3_worstOf_L23
        rw [if_neg (nI_ge hi (by omega)), X_after TU hp hN, bnp_ok, X_shown XU hG hy hs, bnp_ok, f5_add_in (by omega) (by decide), bnd_ok, p6 _ (by omega), nI_1, f5_get_in (by omega) (by decide), bnp_ok, wr_val, lt_ok, nI_1, lt_ok, hm]
        by_cases c : mx (fun r => fb_sm (cS T F b s r) p) 20 < fb_sm (cS T F b s (ld (nx T F b p) s % F)) p + 1
        · rw [if_pos (nI_lt c (by omega)), if_pos c]
        · rw [if_neg (nI_nlt (by omega) (by omega)), if_neg c]
      · dsimp only
        rw [wr_ne _ _ _ _ hq]; exact p5 q hq
      · dsimp only
        rw [hc r]
        by_cases e : r = ld (nx T F b p) s % F
        · rw [e, wr_val, if_pos rfl]
        · rw [wr_oth e, p6 r hr, if_neg (fun z => e z.symm)]; rfl)
    (by
      rintro ⟨x, y, z, U⟩ ⟨p, hp, p1, p2, p3, p4, p5, p6⟩
      dsimp only at p2 p3 p4 p5 p6 ⊢
      subst p2; subst p3; subst p4
      refine ⟨(nI (wst T F b s), U), ?_, rfl, p5⟩
      unfold f3_worstOf_L23
      rw [if_pos (nI_le (Nat.le_refl _) (by omega))]
      have : mx (fun r => fb_sm (cS T F b s r) p) 20 = wst T F b s := mx_cong (fun r _ => sm_met hp p1 (fun x hx => cS_no hx))
      rw [this])
    (by omega) ⟨0, Nat.zero_le _, rfl, rfl, rfl, rfl, w2, fun r hr => w3 r hr⟩
  rw [k1, bnp_ok]
  rw [k2]
  exact ⟨r.2, rfl, k3⟩
theorem cM_cS {T F s r : Nat} {b : Bk} (hT : T ≤ 3) : cM T F b (fun x => decide (ld x s % F = r)) (nW T) = fb_sm (cS T F b s r) 10000 := by
  rw [cM_all hT]
  exact fb_sm_cong (fun x _ => by unfold cS; simp only [decide_eq_true_eq])
theorem cM_le {T F n : Nat} {b : Bk} {g : Nat → Bool} : cM T F b g n ≤ n := by
  have := fb_sm_bound (f := fun c => if mis F b (ph T c) = 0 ∧ g (ph T c) = true then 1 else 0) (c := 1) (n := n) (fun k _ => by split <;> decide)
  unfold cM; omega
theorem M_worst {T F N s : Nat} {b : Bk} {S : Mem} (h : MSt T F b S) (hG : GSt T F b) (hs : s < 2 ^ T) (hN : 10002 < N) : ∃ S', f10_worstOf N (nI s) S = some (nI (wst T F b s), S') ∧ FW S S' := by
  have hT := hG.1
  have hnW := nW_le hT
  have hF2 := hG.2.1
  have hF20 := hG.2.2.1
  unfold f10_worstOf f10_worstOf_b21 f10_worstOf_b59 f10_worstOf_b96
  obtain ⟨S1, a1, a2, a3⟩ := lp_inv (f := fun t : Int32 × Mem => f10_worstOf_L2 N (nI s) t.1 t.2) (s := ((0 : Int32), S)) (N := N)
    (fun i t => t.1 = nI i ∧ FW S t.2 ∧ ∀ r, r < i → (t.2 66).1 r = 0)
    (fun S' => FW S S' ∧ ∀ r, r < 20 → (S' 66).1 r = 0) 20
    (by
      rintro i ⟨x, U⟩ hi ⟨hx, u1, u2⟩
      dsimp only at hx u1 u2 ⊢
      subst hx
      refine ⟨(nI (i + 1), wr U 66 i 0), ?_, rfl, FW_tr u1 (FW_wr (by decide)), fun r hr => ?_⟩
      · unfold f10_worstOf_L2
        rw [if_neg (show ¬ (20 : Int32) ≤ nI i from nI_ge (b := 20) hi (by decide)), if_neg (nI_in hi (by decide)), lt_ok, lt_ok, nI_1, nI_clamp (by omega)]
      · dsimp only
        by_cases e : r = i
        · rw [e, wr_val]
        · rw [wr_oth e]; exact u2 r (by omega))
    (by
      rintro ⟨x, U⟩ ⟨hx, u1, u2⟩
      dsimp only at hx u1 u2 ⊢
      subst hx
      refine ⟨U, ?_, u1, u2⟩
      unfold f10_worstOf_L2
      rw [if_pos (by decide)])
    (by omega) ⟨rfl, FW_refl S, fun r hr => absurd hr (Nat.not_lt_zero r)⟩
  rw [a1, bnp_ok]
  obtain ⟨S2, b1, b2, b3⟩ := lp_inv (f := fun t : Int32 × Mem => f10_worstOf_L23 N (nI s) t.1 t.2) (s := ((0 : Int32), S1)) (N := N)
    (fun i t => t.1 = nI i ∧ FW S t.2 ∧ ∀ r, r < 20 → (t.2 66).1 r = nI (cM T F b (fun x => decide (ld x s % F = r)) i))
    (fun S' => FW S S' ∧ ∀ r, r < 20 → (S' 66).1 r = nI (fb_sm (cS T F b s r) 10000)) (nW T)
    (by
      rintro c ⟨x, U⟩ hc ⟨hx, u1, u2⟩
      dsimp only at hx u1 u2 ⊢
      subst hx
      have hU := MSt_fw h u1
      obtain ⟨V, w1, w2, w3⟩ := M_canBe (N := N) hU hG hc (by omega)
      have hph := (ph_ps hT hc).1
      have hV := MSt_fw hU (FW_65 w3)
      have hlt : ld (ph T c) s % F < F := Nat.mod_lt _ (by omega)
      have fV : FW S V := FW_tr u1 (FW_65 w3)
      by_cases hm : mis F b (ph T c) = 0
      · refine ⟨(nI (c + 1), wr V 66 (ld (ph T c) s % F) (nI (cM T F b (fun x => decide (ld x s % F = ld (ph T c) s % F)) c + 1))), ?_, rfl, FW_tr fV (FW_wr (by decide)), fun r hr => ?_⟩
        · unfold f10_worstOf_L23 f10_worstOf_b53
          rw [M_worlds hU hG (by omega), bnp_ok, if_neg (nI_ge hc (by omega)), w1, bnd_ok, if_pos hm, if_neg (show ¬ (1 : Int32) = 0 by decide), M_shown hV hG w2 hph hs (by omega), bnp_ok, if_neg (nI_in (by omega) (by decide)), lt_ok, if_neg (nI_in (by omega) (by decide)), lt_ok, lt_ok, nI_1, nI_clamp (by omega), w3 66 (by decide), u2 _ (by omega), nI_1]
        · dsimp only
          rw [cM_succ]
          by_cases e : r = ld (ph T c) s % F
          · rw [e, wr_val, if_pos ⟨hm, decide_eq_true rfl⟩]
          · rw [wr_oth e, w3 66 (by decide), u2 r hr, if_neg (fun z => e (of_decide_eq_true z.2).symm)]; rfl
      · refine ⟨(nI (c + 1), V), ?_, rfl, fV, fun r hr => ?_⟩
        · unfold f10_worstOf_L23 f10_worstOf_b53
          rw [M_worlds hU hG (by omega), bnp_ok, if_neg (nI_ge hc (by omega)), w1, bnd_ok, if_neg hm, if_pos rfl, lt_ok, nI_1]
        · dsimp only
          rw [cM_succ, if_neg (fun z => hm z.1), w3 66 (by decide), u2 r hr]; rfl)
    (by
      rintro ⟨x, U⟩ ⟨hx, u1, u2⟩
      dsimp only at hx u1 u2 ⊢
      subst hx
      refine ⟨U, ?_, u1, fun r hr => by rw [u2 r hr, cM_cS hT]⟩
      unfold f10_worstOf_L23
      rw [M_worlds (MSt_fw h u1) hG (by omega), bnp_ok, if_pos (nI_le (Nat.le_refl _) (by omega))])
    (by omega) ⟨rfl, a2, fun r hr => a3 r hr⟩
  rw [b1, bnp_ok]
  have hle : ∀ i, mx (fun r => fb_sm (cS T F b s r) 10000) i ≤ 10000 := fun i => mx_le (fun r _ => cS_le)
  have k := lp_seq (f := fun t : Int32 × Int32 => f10_worstOf_L63 N t.1 t.2 S2) (fun i => (nI (mx (fun r => fb_sm (cS T F b s r) 10000) i), nI i)) (r := nI (wst T F b s)) (N := N) 20 (fun i hi => ?_) ?_ (by omega)
  · rw [show ((0 : Int32), (0 : Int32)) = (nI (mx (fun r => fb_sm (cS T F b s r) 10000) 0), nI 0) from rfl, k, bnp_ok]
    exact ⟨S2, rfl, b2⟩
  · dsimp only
    have hc := cS_le (T := T) (F := F) (b := b) (s := s) (r := i) (n := 10000)
    have hl := hle i
    unfold f10_worstOf_L63 f10_worstOf_b89
    rw [if_neg (show ¬ (20 : Int32) ≤ nI i from nI_ge (b := 20) hi (by decide)), if_neg (nI_in hi (by decide)), lt_ok, if_neg (nI_in hi (by decide)), lt_ok, nI_clamp (by omega), b3 i hi, lt_ok, lt_ok, nI_1, mx]
    by_cases c : mx (fun r => fb_sm (cS T F b s r) 10000) i < fb_sm (cS T F b s i) 10000
    · rw [if_neg (nI_ge c (by omega)), if_pos c]
    · rw [if_pos (nI_le (by omega) (by omega)), if_neg c]
  · dsimp only
    unfold f10_worstOf_L63
    rw [if_pos (by decide)]
    rfl
