theorem M_prod {T F N x a c : Nat} {b : Bk} {S : Mem} (v1 v4 : Int32) (v5 v7 : Int64) (v9 : Int32) (h : MSt T F b S) (hG : GSt T F b) (hW : MW T x S) (hx : x < 10000) (hN : 20 < N) (ha : a < 100) (hc : c < 100) : lp N (fun s : Int64 × Int32 => f10_odds_L76 N v1 (nI a) (nI (a + c)) v4 v5 v7 v9 s.1 s.2 S) ((1 : Int64), (0 : Int32)) = some (lN (mpr F b a c x b.1)) := by
  have hb := hG.2.2.2.1
  have k := lp_seq (f := fun s : Int64 × Int32 => f10_odds_L76 N v1 (nI a) (nI (a + c)) v4 v5 v7 v9 s.1 s.2 S) (fun i => (lN (mpr F b a c x i), nI i)) (r := lN (mpr F b a c x b.1)) (N := N) b.1 (fun i hi => ?_) ?_ (by omega)
  · exact k
  · dsimp only
    obtain ⟨-, -, hu⟩ := hG.2.2.2.2 i hi
    obtain ⟨-, -, m3⟩ := h.2.2.2 i hi
    rw [Nat.mul_zero, Nat.zero_add] at m3
    have e0 : (3 : Int32) * nI i = nI (3 * i) := pk_mul 3 i
    unfold f10_odds_L76 f10_odds_b127
    rw [if_neg (show ¬ ((0 : Int32) < 0 ∨ 3 ≤ (0 : Int32).toNatClampNeg) by decide), lt_ok, c0, h.2.2.1, if_neg (nI_ge hi (by omega)), e0, show nI (3 * i) + 2 = nI (3 * i + 2) from nI_add _ 2, if_neg (nI_in (by omega) (by decide)), lt_ok, nI_clamp (by omega), m3, mpr]
    by_cases e : (b.2 i).2.2 = 2
    · have hl3 := lgh_lt (F := F) (l := b.2 i) (x := x)
      rw [if_pos (show (2 : Int32) ≤ nI (b.2 i).2.2 by rw [e]; decide), M_laughIn h hG hW hx hi (by omega), bnp_ok, if_pos e, pk_sub (by omega), show a + c - a = c by omega, nI_l (by omega), nI_l (by omega)]
      by_cases e1 : lgh F (b.2 i) x = 1
      · rw [e1, if_pos (show lI 1 = 1 by decide), if_pos rfl, lt_ok, lt_ok, nI_1, lN_mul]
      · have n1 : ¬ lI (lgh F (b.2 i) x) = 1 := by
          rcases (show lgh F (b.2 i) x = 0 ∨ lgh F (b.2 i) x = 2 by omega) with e | e <;> rw [e] <;> decide
        rw [if_neg n1, if_neg e1, lt_ok, lt_ok, nI_1, lN_mul]
    · rw [if_neg (show ¬ (2 : Int32) ≤ nI (b.2 i).2.2 from nI_ge (b := 2) (by omega) (by decide)), if_neg e, lt_ok, lt_ok, nI_1, show (1 : Int64) = lN 1 from rfl, lN_mul]
  · dsimp only
    unfold f10_odds_L76
    rw [if_neg (show ¬ ((0 : Int32) < 0 ∨ 3 ≤ (0 : Int32).toNatClampNeg) by decide), lt_ok, c0, h.2.2.1, if_pos (nI_le (Nat.le_refl _) (by omega))]
def sM (T F : Nat) (b : Bk) (g : Nat → Nat) (n : Nat) : Nat := fb_sm (fun c => if mis F b (ph T c) = 0 then g (ph T c) else 0) n
theorem sM_succ {T F c : Nat} {b : Bk} {g : Nat → Nat} : sM T F b g (c + 1) = sM T F b g c + (if mis F b (ph T c) = 0 then g (ph T c) else 0) := fb_sm_succ _ _
theorem sM_all {T F : Nat} {b : Bk} (hT : T ≤ 3) (g : Nat → Nat) : sM T F b g (nW T) = fb_sm (fun x => if lf T F b x = true then g x else 0) 10000 := by
  refine (sm_ph hT (fun x => if mis F b x = 0 then g x else 0)).trans (fb_sm_cong (fun x hx => ?_))
  unfold lf
  by_cases hv : vd T x = true
  · rw [if_pos hv, hv]
    simp only [Bool.true_and, decide_eq_true_eq]
  · rw [if_neg hv, eq_false_of_ne_true hv]
    simp only [Bool.false_and, Bool.false_eq_true, if_false]
theorem sM_tAll {T F a c : Nat} {b : Bk} (hT : T ≤ 3) (hb : b.1 ≤ 12) : sM T F b (fun x => mpr F b a c x b.1) (nW T) = tAll T F b a c := by
  rw [sM_all hT]
  exact fb_sm_cong (fun x _ => by rw [(mpr_chp hb).1])
theorem sM_tNum {T F a c k : Nat} {b : Bk} (hT : T ≤ 3) (hb : b.1 ≤ 12) : sM T F b (fun x => if lgh F (b.2 k) x = 1 then mpr F b a c x b.1 else 0) (nW T) = tNum T F b a c k := by
  rw [sM_all hT]
  exact fb_sm_cong (fun x _ => by rw [(mpr_chp hb).1])
theorem op_odds {a : Ab} {S : Mem} {N : Nat} (hN : 10001 < N) (hG : GA a) (hX : XA a S) (hM : MA a S) (hC : XCA a S) (i p q w : Int32) : ∃ r S1 S2, f9_odds N i p q w S = some (r, S1) ∧ f10_odds N i p q w S1 = some (r, S2) ∧ Kp a S2 := by
  have hG' := GA_GSt hG
  have hT := hG'.1
  have hnW := nW_le hT
  have hb12 := hG'.2.2.2.1
  obtain ⟨S1, l1, l2, l3⟩ := X_learn hG' (XA_XSt hX) hC (by omega : 400 < N)
  have fl := FL_of l3
  have hMs := MA_MSt (MA_fl hM fl)
  have hX1 := XSt_fl (XA_XSt hX) fl
  have known : f9_known N S = some ((), S1) := by
    unfold f9_known
    rw [l1, bnd_ok]
  have bad : f9_odds N i p q w S = some (-1, S) → f10_odds N i p q w S = some (-1, S) → ∃ r S1 S2, f9_odds N i p q w S = some (r, S1) ∧ f10_odds N i p q w S1 = some (r, S2) ∧ Kp a S2 := fun h1 h2 => ⟨-1, S, S, h1, h2, hX, hM, hC⟩
  rcases line_cases (N := N) hX.2.2.1 hMs.2.2 hb12 i with ⟨k, hk, rfl, x1, y1⟩ | ⟨x1, y1⟩
  · have y1' : f10_isLine N (nI k) S = some 1 := by
      rcases line_cases (N := N) (S := S) (S' := S) hX.2.2.1 hM.2.2.1 hb12 (nI k) with ⟨_, _, _, _, h⟩ | ⟨h, _⟩
      · exact h
      · rw [x1] at h; cases h
    have hq := btw_lit (i := q) (a := 1) (b := 9) (by decide) (by decide)
    rw [show nI 1 = 1 from rfl, show nI 9 = 9 from rfl] at hq
    rcases hq with ⟨b', hb1, hb9, rfl, hq⟩ | ⟨-, hq⟩
    · have hp := btw_lit (i := p) (a := 1) (b := b' - 1) (by decide) (by omega)
      have eb : nI b' - 1 = nI (b' - 1) := pk_sub (b := 1) hb1
      rw [show nI 1 = 1 from rfl, ← eb] at hp
      rcases hp with ⟨a', ha1, ha9, rfl, hp⟩ | ⟨-, hp⟩
      · have hw := btw_lit (i := w) (a := 0) (b := 1) (by decide) (by decide)
        rw [show nI 1 = 1 from rfl, show nI 0 = 0 from rfl] at hw
        rcases hw with ⟨w', -, hw1, rfl, hw⟩ | ⟨-, hw⟩
        · obtain ⟨c, hc⟩ : ∃ c, b' = a' + c := ⟨b' - a', by omega⟩
          subst hc
          have hall := tAll_lt (T := a.2.1.1) (F := a.2.1.2.2.2) (b := a.2.2.1) (a := a') (c := c) (by omega) (by omega) hb12
          have hnum := tNum_le (T := a.2.1.1) (F := a.2.1.2.2.2) (b := a.2.2.1) (a := a') (c := c) (k := k)
          -- the model's sums
          obtain ⟨r, k1, k2, k3, k4⟩ := lp_inv (f := fun s : Int64 × Int64 × Int32 × Mem => f10_odds_L52 N (nI k) (nI a') (nI (a' + c)) (nI w') s.1 s.2.1 s.2.2.1 s.2.2.2) (s := ((0 : Int64), (0 : Int64), (0 : Int32), S1)) (N := N)
            (fun i s => s.1 = lN (sM a.2.1.1 a.2.1.2.2.2 a.2.2.1 (fun x => if lgh a.2.1.2.2.2 (a.2.2.1.2 k) x = 1 then mpr a.2.1.2.2.2 a.2.2.1 a' c x a.2.2.1.1 else 0) i) ∧ s.2.1 = lN (sM a.2.1.1 a.2.1.2.2.2 a.2.2.1 (fun x => mpr a.2.1.2.2.2 a.2.2.1 a' c x a.2.2.1.1) i) ∧ s.2.2.1 = nI i ∧ FW S1 s.2.2.2)
            (fun s => s.1 = lN (tNum a.2.1.1 a.2.1.2.2.2 a.2.2.1 a' c k) ∧ s.2.1 = lN (tAll a.2.1.1 a.2.1.2.2.2 a.2.2.1 a' c) ∧ FW S1 s.2.2) (nW a.2.1.1)
            (by
              rintro d ⟨x, y, z, U⟩ hd ⟨hx, hy, hz, u1⟩
              dsimp only at hx hy hz u1 ⊢
              subst hx; subst hy; subst hz
              have hU := MSt_fw hMs u1
              obtain ⟨V, w1, w2, w3⟩ := M_canBe (N := N) hU hG' hd (by omega)
              have hph := (ph_ps hT hd).1
              have hV := MSt_fw hU (FW_65 w3)
              refine ⟨(lN (sM a.2.1.1 a.2.1.2.2.2 a.2.2.1 (fun x => if lgh a.2.1.2.2.2 (a.2.2.1.2 k) x = 1 then mpr a.2.1.2.2.2 a.2.2.1 a' c x a.2.2.1.1 else 0) (d + 1)), lN (sM a.2.1.1 a.2.1.2.2.2 a.2.2.1 (fun x => mpr a.2.1.2.2.2 a.2.2.1 a' c x a.2.2.1.1) (d + 1)), nI (d + 1), V), ?_, rfl, rfl, rfl, FW_tr u1 (FW_65 w3)⟩
              unfold f10_odds_L52 f10_odds_b163 f10_odds_b136 f10_odds_b153 f10_odds_b163
              rw [M_worlds hU hG' (by omega), bnp_ok, if_neg (nI_ge hd (by omega)), w1, bnd_ok, sM_succ, sM_succ]
              by_cases hm : mis a.2.1.2.2.2 a.2.2.1 (ph a.2.1.1 d) = 0
              · have hl2 := mis_0.mp hm k hk
                have hl3 := lgh_lt (F := a.2.1.2.2.2) (l := a.2.2.1.2 k) (x := ph a.2.1.1 d)
                rw [if_pos hm, if_neg (show ¬ (1 : Int32) = 0 by decide), if_pos hm, if_pos hm, M_prod _ _ _ _ _ hV hG' w2 hph (by omega) (by omega) (by omega), bnp_ok, M_laughIn hV hG' w2 hph hk (by omega), bnp_ok]
                by_cases e1 : lgh a.2.1.2.2.2 (a.2.2.1.2 k) (ph a.2.1.1 d) = 1
                · rw [e1, if_pos (show lI 1 = 1 by decide), if_pos rfl, lt_ok, lt_ok, lt_ok, lN_add, lN_add, nI_1]
                · have n1 : ¬ lI (lgh a.2.1.2.2.2 (a.2.2.1.2 k) (ph a.2.1.1 d)) = 1 := by
                    rw [show lgh a.2.1.2.2.2 (a.2.2.1.2 k) (ph a.2.1.1 d) = 0 by omega]; decide
                  rw [if_neg n1, if_neg e1, lt_ok, lt_ok, lt_ok, show (0 : Int64) = lN 0 from rfl, lN_add, lN_add, nI_1]
              · rw [if_neg hm, if_pos rfl, if_neg hm, if_neg hm, lt_ok, nI_1]
                rfl)
            (by
              rintro ⟨x, y, z, U⟩ ⟨hx, hy, hz, u1⟩
              dsimp only at hx hy hz u1 ⊢
              rw [sM_tNum hT hb12] at hx
              rw [sM_tAll hT hb12] at hy
              subst hx; subst hy; subst hz
              refine ⟨(lN (tNum a.2.1.1 a.2.1.2.2.2 a.2.2.1 a' c k), lN (tAll a.2.1.1 a.2.1.2.2.2 a.2.2.1 a' c), U), ?_, rfl, rfl, u1⟩
              unfold f10_odds_L52
              rw [M_worlds (MSt_fw hMs u1) hG' (by omega), bnp_ok, if_pos (nI_le (Nat.le_refl _) (by omega))])
            (by omega) ⟨rfl, rfl, rfl, FW_refl S1⟩
          have y1 : f10_isLine N (nI k) S1 = some 1 := y1
          have mo : f10_odds N (nI k) (nI a') (nI (a' + c)) (nI w') S1 = f10_odds_b169 N (nI w') r.1 r.2.1 r.2.2 := by
            unfold f10_odds
            rw [y1, bnp_ok, if_neg (by decide), fM_btw, bnp_ok, hq, if_neg (by decide), fM_btw, bnp_ok, hp, if_neg (by decide), fM_btw, bnp_ok, hw, if_neg (by decide), k1, bnp_ok]
          have xo : f9_odds N (nI k) (nI a') (nI (a' + c)) (nI w') S = (if nI (fb_sm (gA a.2.1.1 a.2.1.2.2.2 a.2.2.1) 10000) = 0 then some (((-2 : Int64), S1)) else (if 0 ≤ lg_cmp (lN (gcdE (tNum a.2.1.1 a.2.1.2.2.2 a.2.2.1 a' c k) (tAll a.2.1.1 a.2.1.2.2.2 a.2.2.1 a' c))) (1 : Int64) then (if nI w' = 0 then (if lN (gcdE (tNum a.2.1.1 a.2.1.2.2.2 a.2.2.1 a' c k) (tAll a.2.1.1 a.2.1.2.2.2 a.2.2.1 a' c)) = (0 : Int64) then none else some (lN (tNum a.2.1.1 a.2.1.2.2.2 a.2.2.1 a' c k) / lN (gcdE (tNum a.2.1.1 a.2.1.2.2.2 a.2.2.1 a' c k) (tAll a.2.1.1 a.2.1.2.2.2 a.2.2.1 a' c)), S1)) else (if lN (gcdE (tNum a.2.1.1 a.2.1.2.2.2 a.2.2.1 a' c k) (tAll a.2.1.1 a.2.1.2.2.2 a.2.2.1 a' c)) = (0 : Int64) then none else some (lN (tAll a.2.1.1 a.2.1.2.2.2 a.2.2.1 a' c) / lN (gcdE (tNum a.2.1.1 a.2.1.2.2.2 a.2.2.1 a' c k) (tAll a.2.1.1 a.2.1.2.2.2 a.2.2.1 a' c)), S1))) else some (((-2 : Int64), S1)))) := by
            unfold f9_odds f8_left
            rw [x1, bnp_ok, if_neg (by decide), fX_btw, bnp_ok, hq, if_neg (by decide), fX_btw, bnp_ok, hp, if_neg (by decide), fX_btw, bnp_ok, hw, if_neg (by decide), known, bnd_ok, bnp_ok, l2.2.1, X_num hX1 hG' l2 hk (by omega) (by omega) (by omega), bnp_ok, X_all hX1 hG' l2 (by omega) (by omega) (by omega), bnp_ok, X_gcd (by omega) (by omega) (by omega), bnp_ok]
          have ht := tot_le (T := a.2.1.1) (F := a.2.1.2.2.2) (b := a.2.2.1)
          by_cases z0 : fb_sm (gA a.2.1.1 a.2.1.2.2.2 a.2.2.1) 10000 = 0
          · refine ⟨-2, S1, r.2.2, ?_, ?_, Kp_done hX hM fl l2 k4⟩
            · rw [xo, if_pos (by rw [z0]; rfl)]
            · rw [mo, k3]
              unfold f10_odds_b169
              have h0 := tAll_0 (a := a') (c := c) z0
              rw [h0, if_pos (by decide)]
          · have hpos := tAll_pos (T := a.2.1.1) (F := a.2.1.2.2.2) (b := a.2.2.1) (a := a') (c := c) (by omega) (by omega)
            obtain ⟨g1, g2⟩ := gcdE_pos (x := tNum a.2.1.1 a.2.1.2.2.2 a.2.2.1 a' c k) (y := tAll a.2.1.1 a.2.1.2.2.2 a.2.2.1 a' c) (by omega) (by omega) (by omega)
            have mg := M_gcd (x := tNum a.2.1.1 a.2.1.2.2.2 a.2.2.1 a' c k) (y := tAll a.2.1.1 a.2.1.2.2.2 a.2.2.1 a' c) (N := N) (S := r.2.2) (by omega) (by omega) (by omega)
            generalize gcdE (tNum a.2.1.1 a.2.1.2.2.2 a.2.2.1 a' c k) (tAll a.2.1.1 a.2.1.2.2.2 a.2.2.1 a' c) = g at *
            have gn : ¬ lN g = (0 : Int64) := fun z => by have := (pk_lEQ (a := g) (b := 0) (by omega) (by decide)).mp z; omega
            have ge1 : (0 : Int32) ≤ lg_cmp (lN g) (1 : Int64) := (lg_cmp_ge _ _).mpr ((pk_lLE (a := 1) (b := g) (by decide) (by omega)).mpr g1)
            rw [if_neg (show ¬ nI (fb_sm (gA a.2.1.1 a.2.1.2.2.2 a.2.2.1) 10000) = 0 from ne_nI (b := 0) (by omega) (by decide) z0), if_pos ge1, if_neg gn, if_neg gn] at xo
            have mo2 : f10_odds N (nI k) (nI a') (nI (a' + c)) (nI w') S1 = (if nI w' = 0 then some (lN (tNum a.2.1.1 a.2.1.2.2.2 a.2.2.1 a' c k) / lN g, r.2.2) else some (lN (tAll a.2.1.1 a.2.1.2.2.2 a.2.2.1 a' c) / lN g, r.2.2)) := by
              rw [mo, k2, k3]
              unfold f10_odds_b169
              rw [if_neg (show ¬ lg_cmp (lN (tAll a.2.1.1 a.2.1.2.2.2 a.2.2.1 a' c)) (0 : Int64) = 0 by rw [lc0 (by omega)]; omega), mg, bnp_ok, if_neg gn, if_neg gn]
            by_cases hw0 : nI w' = 0
            · rw [if_pos hw0] at xo mo2
              exact ⟨_, S1, r.2.2, xo, mo2, Kp_done hX hM fl l2 k4⟩
            · rw [if_neg hw0] at xo mo2
              exact ⟨_, S1, r.2.2, xo, mo2, Kp_done hX hM fl l2 k4⟩
        · refine bad ?_ ?_
          · unfold f9_odds
            rw [x1, bnp_ok, if_neg (by decide), fX_btw, bnp_ok, hq, if_neg (by decide), fX_btw, bnp_ok, hp, if_neg (by decide), fX_btw, bnp_ok, hw, if_pos rfl]
          · unfold f10_odds
            rw [y1', bnp_ok, if_neg (by decide), fM_btw, bnp_ok, hq, if_neg (by decide), fM_btw, bnp_ok, hp, if_neg (by decide), fM_btw, bnp_ok, hw, if_pos rfl]
      · refine bad ?_ ?_
        · unfold f9_odds
          rw [x1, bnp_ok, if_neg (by decide), fX_btw, bnp_ok, hq, if_neg (by decide), fX_btw, bnp_ok, hp, if_pos rfl]
        · unfold f10_odds
          rw [y1', bnp_ok, if_neg (by decide), fM_btw, bnp_ok, hq, if_neg (by decide), fM_btw, bnp_ok, hp, if_pos rfl]
    · refine bad ?_ ?_
      · unfold f9_odds
        rw [x1, bnp_ok, if_neg (by decide), fX_btw, bnp_ok, hq, if_pos rfl]
      · unfold f10_odds
        rw [y1', bnp_ok, if_neg (by decide), fM_btw, bnp_ok, hq, if_pos rfl]
  · have y1' : f10_isLine N i S = some 0 := by
      rcases line_cases (N := N) (S := S) (S' := S) hX.2.2.1 hM.2.2.1 hb12 i with ⟨_, _, _, h, _⟩ | ⟨_, h⟩
      · rw [x1] at h; cases h
      · exact h
    refine bad ?_ ?_
    · unfold f9_odds
      rw [x1, bnp_ok, if_pos rfl]
    · unfold f10_odds
      rw [y1', bnp_ok, if_pos rfl]
