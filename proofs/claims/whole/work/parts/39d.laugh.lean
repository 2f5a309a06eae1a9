/-- laughs in what is left -/
def gV (T F : Nat) (b : Bk) (k v : Nat) : Nat → Nat := fun x => if lf T F b x = true ∧ lgh F (b.2 k) x = v then 1 else 0
def vL (T F : Nat) (b : Bk) (k v : Nat) : Nat := fb_sm (gV T F b k v) 10000
def oL (T F : Nat) (b : Bk) (k n : Nat) : Nat := bsum (fun v => decide (0 < cM T F b (fun x => decide (lgh F (b.2 k) x = v)) n)) 2
theorem lf_mis {T F x : Nat} {b : Bk} (h : lf T F b x = true) : mis F b x = 0 := by
  unfold lf at h
  rw [Bool.and_eq_true, decide_eq_true_eq] at h
  exact h.2
theorem lgh_lt {F x : Nat} {l : Nat × Nat × Nat} : lgh F l x < 3 := lgl_lt _ _ _ _
theorem gV_e {T F k v : Nat} {b : Bk} : fb_sm (fun x => if lf T F b x = true ∧ decide (lgh F (b.2 k) x = v) = true then 1 else 0) 10000 = vL T F b k v := fb_sm_cong (fun x _ => by unfold gV; simp only [decide_eq_true_eq])
theorem vL_tot {T F k : Nat} {b : Bk} (hk : k < b.1) : vL T F b k 0 + vL T F b k 1 = fb_sm (gA T F b) 10000 := by
  have h := sm_fib (n := 10000) (m := 3) (lf T F b) (fun x => lgh F (b.2 k) x) (fun _ => 1) (fun x _ => lgh_lt)
  have h2 : vL T F b k 2 = 0 := sm_none (fun x _ => if_neg (fun z => mis_0.mp (lf_mis z.1) k hk z.2))
  have e : fb_sm (fun w => vL T F b k w) 3 = fb_sm (gA T F b) 10000 := h
  have e3 : fb_sm (fun w => vL T F b k w) 3 = 0 + vL T F b k 0 + vL T F b k 1 + vL T F b k 2 := rfl
  omega
theorem oL_all {T F k : Nat} {b : Bk} (hT : T ≤ 3) : oL T F b k (nW T) = (if 0 < vL T F b k 0 then 1 else 0) + (if 0 < vL T F b k 1 then 2 else 0) := by
  unfold oL bsum
  show 0 + _ + _ = _
  dsimp only
  simp only [cM_all hT, gV_e, decide_eq_true_eq, Nat.zero_add]
  rfl
theorem oL_yes {T F k c : Nat} {b : Bk} (hk : k < b.1) (hm : mis F b (ph T c) = 0) : oL T F b k (c + 1) = oL T F b k c ||| 2 ^ lgh F (b.2 k) (ph T c) := by
  have hl : lgh F (b.2 k) (ph T c) < 2 := by
    have h1 := lgh_lt (F := F) (l := b.2 k) (x := ph T c)
    have h2 := mis_0.mp hm k hk
    omega
  unfold oL
  rw [bsum_or hl]
  refine bsum_cong (fun w _ => ?_)
  rw [cM_succ]
  by_cases e : w = lgh F (b.2 k) (ph T c)
  · rw [if_pos ⟨hm, decide_eq_true e.symm⟩, decide_eq_true (by omega), decide_eq_true e, Bool.or_true]
  · rw [if_neg (fun z => e (of_decide_eq_true z.2).symm), decide_eq_false e, Bool.or_false, Nat.add_zero]
theorem oL_no {T F k c : Nat} {b : Bk} (hm : ¬ mis F b (ph T c) = 0) : oL T F b k (c + 1) = oL T F b k c := by
  unfold oL
  refine bsum_cong (fun w _ => ?_)
  rw [cM_succ, if_neg (fun z => hm z.1), Nat.add_zero]
theorem lau_bit {F x k : Nat} {b : Bk} (hk : k < b.1) (hu : (b.2 k).2.2 = 2) : bt2 (lau F b x) k = if lgh F (b.2 k) x = 1 then 1 else 0 := by
  unfold lau
  rw [bt2_bit, bsum_bit, decide_eq_true hk, Bool.true_and]
  simp only [hu, true_and, decide_eq_true_eq]
theorem gU_tot {T F k : Nat} {b : Bk} (hk : k < b.1) (hu : (b.2 k).2.2 = 2) : fb_sm (fun l => fb_sm (gU T F b k l) 10000) 13 = vL T F b k 1 := by
  have h := sm_fib (n := 10000) (m := 13) (lf T F b) (fun x => pop (lau F b x)) (fun x => bt2 (lau F b x) k) (fun x _ => by have := pop_le (lau F b x); omega)
  refine h.trans (fb_sm_cong (fun x _ => ?_))
  unfold gV
  rw [lau_bit hk hu]
  by_cases c1 : lf T F b x = true
  · by_cases c2 : lgh F (b.2 k) x = 1
    · rw [if_pos c1, if_pos c2, if_pos ⟨c1, c2⟩]
    · rw [if_pos c1, if_neg c2, if_neg (fun z => c2 z.2)]
  · rw [if_neg c1, if_neg (fun z => c1 z.1)]
theorem vL_u0 {T F k : Nat} {b : Bk} (hu : (b.2 k).2.2 = 0) : vL T F b k 1 = 0 := by
  refine sm_none (fun x _ => if_neg (fun z => ?_))
  have := z.2
  unfold lgh lgl at this
  rw [hu] at this
  revert this
  split
  · simp
  · split <;> simp
theorem vL_u1 {T F k : Nat} {b : Bk} (hu : (b.2 k).2.2 = 1) : vL T F b k 0 = 0 := by
  refine sm_none (fun x _ => if_neg (fun z => ?_))
  have := z.2
  unfold lgh lgl at this
  rw [hu] at this
  revert this
  split
  · simp
  · split <;> simp
def laughR (T F : Nat) (b : Bk) (k : Nat) : Int32 := if 0 < vL T F b k 0 then (if 0 < vL T F b k 1 then -9 else 0) else (if 0 < vL T F b k 1 then 1 else -9)
theorem X_surely {T F k N : Nat} {b : Bk} {S : Mem} (hG : GSt T F b) (hX : XSt T F b S) (h : TB T F b S) (hk : k < b.1) (hN : 20 < N) : f8_surelyLaughed N (nI k) S = some (laughR T F b k) := by
  have ht := tot_le (T := T) (F := F) (b := b)
  have h3 := (X_line (N := N) hX hG hk).2.2
  have hb := hG.2.2.2.1
  obtain ⟨-, -, hu2⟩ := hG.2.2.2.2 k hk
  have hv := vL_tot (T := T) (F := F) hk
  unfold f8_surelyLaughed
  rw [h3, bnp_ok, bnp_ok, h.2.1]
  unfold laughR
  by_cases c0 : fb_sm (gA T F b) 10000 = 0
  · rw [if_pos (show nI (fb_sm (gA T F b) 10000) = 0 by rw [c0]; rfl), if_neg (by omega), if_neg (by omega)]
  · rw [if_neg (show ¬ nI (fb_sm (gA T F b) 10000) = 0 from ne_nI (b := 0) (by omega) (by decide) c0)]
    rcases (show (b.2 k).2.2 = 0 ∨ (b.2 k).2.2 = 1 ∨ (b.2 k).2.2 = 2 by omega) with hu | hu | hu
    · have := vL_u0 (T := T) (F := F) hu
      rw [hu, if_neg (by decide), if_pos (by omega), if_neg (by omega)]
      rfl
    · have := vL_u1 (T := T) (F := F) hu
      rw [hu, if_neg (by decide), if_neg (by omega), if_pos (by omega)]
      rfl
    · have hU := gU_tot (T := T) (F := F) hk hu
      rw [hu, if_pos (show nI 2 = 2 from rfl)]
      have kk := lp_seq (f := fun s : Int32 × Int32 => f8_surelyLaughed_L35 N (nI k) s.1 s.2 S) (fun i => (nI (fb_sm (fun l => fb_sm (gU T F b k l) 10000) i), nI i)) (r := nI (vL T F b k 1)) (N := N) 13 (fun i hi => ?_) ?_ (by omega)
      · rw [show ((0 : Int32), (0 : Int32)) = (nI (fb_sm (fun l => fb_sm (gU T F b k l) 10000) 0), nI 0) from rfl, kk, bnp_ok]
        unfold f8_surelyLaughed_b63
        rw [h.2.1]
        by_cases c1 : vL T F b k 1 = fb_sm (gA T F b) 10000
        · rw [if_pos (by rw [c1]), if_neg (by omega), if_pos (by omega)]
        · rw [if_neg (ne_nI (by omega) (by omega) c1), if_pos (show 0 < vL T F b k 0 by omega)]
          by_cases c2 : vL T F b k 1 = 0
          · rw [if_pos (show nI (vL T F b k 1) = 0 by rw [c2]; rfl), if_neg (show ¬ 0 < vL T F b k 1 by omega)]
          · rw [if_neg (show ¬ nI (vL T F b k 1) = 0 from ne_nI (b := 0) (by omega) (by decide) c2), if_pos (show 0 < vL T F b k 1 by omega)]
      · dsimp only
        unfold f8_surelyLaughed_L35
        rw [if_neg (show ¬ (13 : Int32) ≤ nI i from nI_ge (b := 13) hi (by decide)), show (13 : Int32) = nI 13 from rfl, pk_mul, nI_add, f5_get_in (by omega) (by decide), bnp_ok, h.2.2.2.2.2.2.2 k i (by omega) hi, nI_add, lt_ok, lt_ok, nI_1, fb_sm_succ (fun l => fb_sm (gU T F b k l) 10000) i]
      · dsimp only
        unfold f8_surelyLaughed_L35
        rw [if_pos (by decide), hU]
theorem line_cases {N : Nat} {b : Bk} {S S' : Mem} (hX : XBk b S 15) (hM : MBk b S' 0) (hb : b.1 ≤ 12) (i : Int32) : (∃ k, k < b.1 ∧ i = nI k ∧ f9_isLine N i S = some 1 ∧ f10_isLine N i S' = some 1) ∨ (f9_isLine N i S = some 0 ∧ f10_isLine N i S' = some 0) := by
  rw [X_isLine hX, M_isLine hM]
  rcases btw_cnt (i := i) (T := b.1) (by omega) with ⟨j, hj, rfl, h⟩ | ⟨-, h⟩
  · exact Or.inl ⟨j, hj, rfl, by rw [h], by rw [h]⟩
  · exact Or.inr ⟨by rw [h], by rw [h]⟩
theorem op_laugh {a : Ab} {S : Mem} {N : Nat} (hN : 10001 < N) (hG : GA a) (hX : XA a S) (hM : MA a S) (hC : XCA a S) (i : Int32) : ∃ r S1 S2, f9_laugh N i S = some (r, S1) ∧ f10_laugh N i S1 = some (r, S2) ∧ Kp a S2 := by
  have hG' := GA_GSt hG
  have hT := hG'.1
  have hnW := nW_le hT
  have hb12 := hG'.2.2.2.1
  obtain ⟨S1, l1, l2, l3⟩ := X_learn hG' (XA_XSt hX) hC (by omega : 400 < N)
  have fl := FL_of l3
  have hMs := MA_MSt (MA_fl hM fl)
  have known : f9_known N S = some ((), S1) := by
    unfold f9_known
    rw [l1, bnd_ok]
  rcases line_cases (N := N) hX.2.2.1 hMs.2.2 hb12 i with ⟨k, hk, rfl, x1, y1⟩ | ⟨x1, y1⟩
  · obtain ⟨q, k1, k2, k3⟩ := lp_inv (f := fun s : Int32 × Int32 × Mem => f10_laugh_L14 N (nI k) s.1 s.2.1 s.2.2) (s := ((0 : Int32), (0 : Int32), S1)) (N := N)
      (fun i s => s.1 = nI (oL a.2.1.1 a.2.1.2.2.2 a.2.2.1 k i) ∧ s.2.1 = nI i ∧ FW S1 s.2.2)
      (fun s => s.1 = nI (oL a.2.1.1 a.2.1.2.2.2 a.2.2.1 k (nW a.2.1.1)) ∧ FW S1 s.2) (nW a.2.1.1)
      (by
        rintro c ⟨x, y, U⟩ hc ⟨hx, hy, u1⟩
        dsimp only at hx hy u1 ⊢
        subst hx; subst hy
        have hU := MSt_fw hMs u1
        obtain ⟨V, w1, w2, w3⟩ := M_canBe (N := N) hU hG' hc (by omega)
        have hph := (ph_ps hT hc).1
        refine ⟨(nI (oL a.2.1.1 a.2.1.2.2.2 a.2.2.1 k (c + 1)), nI (c + 1), V), ?_, rfl, rfl, FW_tr u1 (FW_65 w3)⟩
        unfold f10_laugh_L14 f10_laugh_b40
        rw [M_worlds hU hG' (by omega), bnp_ok, if_neg (nI_ge hc (by omega)), w1, bnd_ok]
        by_cases hm : mis a.2.1.2.2.2 a.2.2.1 (ph a.2.1.1 c) = 0
        · have hl2 := mis_0.mp hm k hk
          have hl3 := lgh_lt (F := a.2.1.2.2.2) (l := a.2.2.1.2 k) (x := ph a.2.1.1 c)
          have eI : lI (lgh a.2.1.2.2.2 (a.2.2.1.2 k) (ph a.2.1.1 c)) = nI (lgh a.2.1.2.2.2 (a.2.2.1.2 k) (ph a.2.1.1 c)) := if_neg hl2
          rw [if_pos hm, if_neg (show ¬ (1 : Int32) = 0 by decide), M_laughIn (MSt_fw hU (FW_65 w3)) hG' w2 hph hk (by omega), bnp_ok, lt_ok, lt_ok, nI_1, eI, shl_nI (by omega), fa_or, oL_yes hk hm]
        · rw [if_neg hm, if_pos rfl, lt_ok, nI_1, oL_no hm])
      (by
        rintro ⟨x, y, U⟩ ⟨hx, hy, u1⟩
        dsimp only at hx hy u1 ⊢
        subst hx; subst hy
        refine ⟨(nI (oL a.2.1.1 a.2.1.2.2.2 a.2.2.1 k (nW a.2.1.1)), U), ?_, rfl, u1⟩
        unfold f10_laugh_L14
        rw [M_worlds (MSt_fw hMs u1) hG' (by omega), bnp_ok, if_pos (nI_le (Nat.le_refl _) (by omega))])
      (by omega) ⟨rfl, rfl, FW_refl S1⟩
    refine ⟨laughR a.2.1.1 a.2.1.2.2.2 a.2.2.1 k, S1, q.2, ?_, ?_, Kp_done hX hM fl l2 k3⟩
    · unfold f9_laugh
      rw [x1, bnp_ok, if_neg (by decide), known, bnd_ok, X_surely hG' (XSt_fl (XA_XSt hX) fl) l2 hk (by omega), bnp_ok]
    · unfold f10_laugh f10_laugh_b46
      rw [y1, bnp_ok, if_neg (by decide), k1, bnp_ok, k2, oL_all hT]
      unfold laughR
      by_cases c0 : 0 < vL a.2.1.1 a.2.1.2.2.2 a.2.2.1 k 0
      · by_cases c1 : 0 < vL a.2.1.1 a.2.1.2.2.2 a.2.2.1 k 1
        · simp only [if_pos c0, if_pos c1]
          rfl
        · simp only [if_pos c0, if_neg c1]
          rfl
      · by_cases c1 : 0 < vL a.2.1.1 a.2.1.2.2.2 a.2.2.1 k 1
        · simp only [if_neg c0, if_pos c1]
          rfl
        · simp only [if_neg c0, if_neg c1]
          rfl
  · refine ⟨-1, S, S, ?_, ?_, hX, hM, hC⟩
    · unfold f9_laugh
      rw [x1, bnp_ok, if_pos rfl]
    · have y1' : f10_isLine N i S = some 0 := by
        rcases line_cases (N := N) (S := S) (S' := S) hX.2.2.1 hM.2.2.1 hb12 i with ⟨_, _, _, h, _⟩ | ⟨_, h⟩
        · rw [x1] at h; cases h
        · exact h
      unfold f10_laugh
      rw [y1', bnp_ok, if_pos rfl]
