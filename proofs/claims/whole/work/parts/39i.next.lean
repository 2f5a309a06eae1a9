/-! NEXT -/
theorem X_sets {T F N : Nat} {b : Bk} {S : Mem} (h : XSt T F b S) (h3 : T ≤ 3) : f6_sets_10 N S = some (nI (2 ^ T)) := by
  unfold f6_sets_10
  rw [h.1, shl_nI (by omega)]
/-- the set with the least worst -/
def bs (T F : Nat) (b : Bk) : Nat → Nat
  | 0 => 1
  | k + 1 => if wst T F b (k + 2) < wst T F b (bs T F b k) then k + 2 else bs T F b k
theorem bs_r {T F : Nat} {b : Bk} : ∀ k, 1 ≤ bs T F b k ∧ bs T F b k ≤ k + 1 := by
  intro k
  induction k with
  | zero => exact ⟨Nat.le_refl _, Nat.le_refl _⟩
  | succ k ih =>
    rw [bs]
    split <;> omega
theorem X_best {T F N : Nat} {b : Bk} {S : Mem} (hX : XSt T F b S) (hG : GSt T F b) (hT : TB T F b S) (h0 : 2 ≤ 2 ^ T) (hN : 10002 < N) : ∃ S', f3_bestSet N S = some (nI (bs T F b (2 ^ T - 2)), S') ∧ ∀ q, q ≠ 52 → S' q = S q := by
  have h3 := hG.1
  have p8 := pow3 h3
  unfold f3_bestSet f3_bestSet_b45
  obtain ⟨S1, a1, a2⟩ := X_worst (N := N) (s := 1) hX hG hT (by decide) hN
  have a1' : f3_worstOf N (1 : Int32) S = _ := a1
  rw [a1', bnd_ok]
  obtain ⟨r, k1, k2, k3⟩ := lp_inv (f := fun s : Int32 × Int32 × Int32 × Mem => f3_bestSet_L10 N s.1 s.2.1 s.2.2.1 s.2.2.2) (s := ((1 : Int32), nI (wst T F b 1), (2 : Int32), S1)) (N := N)
    (fun i s => s.1 = nI (bs T F b i) ∧ s.2.1 = nI (wst T F b (bs T F b i)) ∧ s.2.2.1 = nI (i + 2) ∧ ∀ q, q ≠ 52 → s.2.2.2 q = S q)
    (fun r => r.1 = nI (bs T F b (2 ^ T - 2)) ∧ ∀ q, q ≠ 52 → r.2 q = S q) (2 ^ T - 2)
    (by
      rintro i ⟨x, y, z, U⟩ hi ⟨hx, hy, hz, u1⟩
      dsimp only at hx hy hz u1 ⊢
      subst hx; subst hy; subst hz
      have XU : XSt T F b U := XSt_fl hX (FL_one u1 (by decide))
      have TU : TB T F b U := TB_eq hT (fun q hq => u1 q (by revert q; decide))
      obtain ⟨V, w1, w2⟩ := X_worst (N := N) (s := i + 2) XU hG TU (by omega) hN
      have l1 := wst_le (T := T) (F := F) (b := b) (s := i + 2)
      have l2 := wst_le (T := T) (F := F) (b := b) (s := bs T F b i)
      refine ⟨(nI (bs T F b (i + 1)), nI (wst T F b (bs T F b (i + 1))), nI (i + 3), V), ?_, rfl, rfl, rfl, fun q hq => (w2 q hq).trans (u1 q hq)⟩
      unfold f3_bestSet_L10 f3_bestSet_b39
      rw [X_sets XU h3, bnp_ok, if_neg (nI_ge (by omega) (by omega)), w1, bnd_ok, bs]
      by_cases c : wst T F b (i + 2) < wst T F b (bs T F b i)
      · rw [if_neg (nI_ge c (by omega)), if_pos c, lt_ok, nI_1]
      · rw [if_pos (nI_le (by omega) (by omega)), if_neg c, lt_ok, nI_1])
    (by
      rintro ⟨x, y, z, U⟩ ⟨hx, hy, hz, u1⟩
      dsimp only at hx hy hz u1 ⊢
      subst hx; subst hy; subst hz
      have XU : XSt T F b U := XSt_fl hX (FL_one u1 (by decide))
      refine ⟨(nI (bs T F b (2 ^ T - 2)), U), ?_, rfl, u1⟩
      unfold f3_bestSet_L10
      rw [X_sets XU h3, bnp_ok, if_pos (nI_le (by omega) (by omega))])
    (by omega) ⟨rfl, rfl, rfl, a2⟩
  rw [k1, bnp_ok]
  rw [k2]
  exact ⟨r.2, rfl, k3⟩
theorem ne9 {n : Nat} (h : n < 1000) : ¬ nI n = -9 := fun e => nI_pos (n := n) (by omega) (by rw [e]; decide)
def bM (T F : Nat) (b : Bk) : Nat → Int32 × Int32
  | 0 => (-9, -9)
  | k + 1 => (nI (bs T F b k), nI (wst T F b (bs T F b k)))
theorem M_nxt {T F N : Nat} {b : Bk} {S : Mem} (h : MSt T F b S) (hG : GSt T F b) (v : Int32) (hN : 10002 < N) : ∃ r, lp N (fun s : Int32 × Int32 × Int32 × Mem => f10_next_L20 N v s.1 s.2.1 s.2.2.1 s.2.2.2) ((-9 : Int32), (-9 : Int32), (1 : Int32), S) = some r ∧ r.1 = (bM T F b (2 ^ T - 1)).1 ∧ r.2.1 = (bM T F b (2 ^ T - 1)).2 ∧ FW S r.2.2 := by
  have h3 := hG.1
  have p8 := pow3 h3
  refine lp_inv (f := fun s : Int32 × Int32 × Int32 × Mem => f10_next_L20 N v s.1 s.2.1 s.2.2.1 s.2.2.2) (s := ((-9 : Int32), (-9 : Int32), (1 : Int32), S)) (N := N)
    (fun i s => s.1 = (bM T F b i).1 ∧ s.2.1 = (bM T F b i).2 ∧ s.2.2.1 = nI (i + 1) ∧ FW S s.2.2.2)
    (fun r => r.1 = (bM T F b (2 ^ T - 1)).1 ∧ r.2.1 = (bM T F b (2 ^ T - 1)).2 ∧ FW S r.2.2) (2 ^ T - 1)
    ?_ ?_ (by omega) ⟨rfl, rfl, rfl, FW_refl S⟩
  · rintro i ⟨x, y, z, U⟩ hi ⟨hx, hy, hz, u1⟩
    dsimp only at hx hy hz u1 ⊢
    subst hx; subst hy; subst hz
    have hU := MSt_fw h u1
    obtain ⟨V, w1, w2⟩ := M_worst (N := N) (s := i + 1) hU hG (by omega) hN
    refine ⟨((bM T F b (i + 1)).1, (bM T F b (i + 1)).2, nI (i + 2), V), ?_, rfl, rfl, rfl, FW_tr u1 w2⟩
    unfold f10_next_L20 f10_next_b53 f10_next_b59
    rw [if_neg (show ¬ ((0 : Int32) < 0 ∨ 2 ≤ (0 : Int32).toNatClampNeg) by decide), lt_ok, c0, hU.1, shl_nI (by omega), if_neg (nI_ge (by omega) (by omega)), w1, bnd_ok]
    rcases i with _ | k
    · rw [if_pos (show (bM T F b 0).1 = -9 from rfl), lt_ok, nI_1]
      rfl
    · have hb := bs_r (T := T) (F := F) (b := b) k
      have l1 := wst_le (T := T) (F := F) (b := b) (s := k + 2)
      have l2 := wst_le (T := T) (F := F) (b := b) (s := bs T F b k)
      rw [if_neg (show ¬ (bM T F b (k + 1)).1 = -9 from ne9 (by omega)), lt_ok, nI_1]
      show (if nI (wst T F b (bs T F b k)) ≤ nI (wst T F b (k + 2)) then some (Sum.inl (nI (bs T F b k), nI (wst T F b (bs T F b k)), nI (k + 1 + 2), V)) else some (Sum.inl (nI (k + 1 + 1), nI (wst T F b (k + 2)), nI (k + 1 + 2), V))) = some (Sum.inl (nI (bs T F b (k + 1)), nI (wst T F b (bs T F b (k + 1))), nI (k + 1 + 2), V))
      rw [bs]
      by_cases c : wst T F b (k + 2) < wst T F b (bs T F b k)
      · rw [if_neg (nI_ge c (by omega)), if_pos c]
      · rw [if_pos (nI_le (by omega) (by omega)), if_neg c]
  · rintro ⟨x, y, z, U⟩ ⟨hx, hy, hz, u1⟩
    dsimp only at hx hy hz u1 ⊢
    subst hx; subst hy; subst hz
    refine ⟨((bM T F b (2 ^ T - 1)).1, (bM T F b (2 ^ T - 1)).2, U), ?_, rfl, rfl, u1⟩
    unfold f10_next_L20
    rw [if_neg (show ¬ ((0 : Int32) < 0 ∨ 2 ≤ (0 : Int32).toNatClampNeg) by decide), lt_ok, c0, (MSt_fw h u1).1, shl_nI (by omega), if_pos (nI_le (by omega) (by omega))]
theorem op_next {a : Ab} {S : Mem} {N : Nat} (hN : 10002 < N) (hG : GA a) (hX : XA a S) (hM : MA a S) (hC : XCA a S) (i : Int32) : ∃ r S1 S2, f9_next N i S = some (r, S1) ∧ f10_next N i S1 = some (r, S2) ∧ Kp a S2 := by
  have hG' := GA_GSt hG
  have hT := hG'.1
  have hXs := XA_XSt hX
  have hw := btw_lit (i := i) (a := 0) (b := 1) (by decide) (by decide)
  rw [← l0, show nI 1 = 1 from rfl] at hw
  rcases hw with ⟨w, -, hw1, rfl, hb⟩ | ⟨-, hb⟩
  · have hb' : btw (nI w) 0 1 = 1 := hb
    by_cases t0 : a.2.1.1 = 0
    · obtain ⟨r, m1, m2, m3, m4⟩ := M_nxt (N := N) (MA_MSt hM) hG' (nI w) hN
      have ez : 2 ^ a.2.1.1 - 1 = 0 := by rw [t0]
      rw [ez] at m2 m3
      refine ⟨-9, S, r.2.2, ?_, ?_, XA_fw hX m4, MA_fw hM m4, ?_⟩
      · unfold f9_next f6_things_10
        rw [fX_btw, bnp_ok, hb', if_neg (by decide), bnp_ok, hXs.1, if_pos (show nI a.2.1.1 = 0 by rw [t0]; rfl)]
      · unfold f10_next f10_next_b65
        rw [fM_btw, bnp_ok, hb', if_neg (by decide), m1, bnp_ok]
        try dsimp only
        rw [m2, m3]
        split <;> rfl
      · rcases hC with h7 | h7
        · exact Or.inl (by rw [m4 39 (by decide)]; exact h7)
        · exact Or.inr (TB_fw h7 m4)
    · have p2 : 2 ≤ 2 ^ a.2.1.1 := by
        rcases T3 hT with e | e | e | e
        · exact absurd e t0
        · rw [e]; decide
        · rw [e]; decide
        · rw [e]; decide
      have p8 := pow3 hT
      obtain ⟨S1, l1, l2, l3⟩ := X_learn hG' hXs hC (by omega : 400 < N)
      have fl := FL_of l3
      obtain ⟨S2, b1, b2⟩ := X_best (N := N) (XSt_fl hXs fl) hG' l2 p2 hN
      have T2 : TB a.2.1.1 a.2.1.2.2.2 a.2.2.1 S2 := TB_eq l2 (fun q hq => b2 q (by revert q; decide))
      have fl2 : FL S S2 := FL_tr fl (FL_one b2 (by decide))
      have hbr := bs_r (T := a.2.1.1) (F := a.2.1.2.2.2) (b := a.2.2.1) (2 ^ a.2.1.1 - 2)
      have X2 : XSt a.2.1.1 a.2.1.2.2.2 a.2.2.1 S2 := XSt_fl hXs fl2
      obtain ⟨S3, d1, d2⟩ := X_worst (N := N) (s := bs a.2.1.1 a.2.1.2.2.2 a.2.2.1 (2 ^ a.2.1.1 - 2)) X2 hG' T2 (by omega) hN
      have n0 : ¬ nI a.2.1.1 = 0 := ne_nI (b := 0) (by omega) (by decide) t0
      have ez : 2 ^ a.2.1.1 - 1 = 2 ^ a.2.1.1 - 2 + 1 := by omega
      have hx1 : f9_next N (nI w) S = if nI w = 0 then some (nI (bs a.2.1.1 a.2.1.2.2.2 a.2.2.1 (2 ^ a.2.1.1 - 2)), S2) else some (nI (wst a.2.1.1 a.2.1.2.2.2 a.2.2.1 (bs a.2.1.1 a.2.1.2.2.2 a.2.2.1 (2 ^ a.2.1.1 - 2))), S3) := by
        unfold f9_next f6_things_10
        rw [fX_btw, bnp_ok, hb', if_neg (by decide), bnp_ok, hXs.1, if_neg n0, l1, bnd_ok, b1, bnd_ok, d1, bnd_ok]
      by_cases w0 : w = 0
      · have e0 : nI w = 0 := by rw [w0]; rfl
        obtain ⟨r, m1, m2, m3, m4⟩ := M_nxt (N := N) (MA_MSt (MA_fl hM fl2)) hG' (nI w) hN
        rw [ez] at m2 m3
        refine ⟨nI (bs a.2.1.1 a.2.1.2.2.2 a.2.2.1 (2 ^ a.2.1.1 - 2)), S2, r.2.2, by rw [hx1, if_pos e0], ?_, Kp_done hX hM fl2 T2 m4⟩
        unfold f10_next f10_next_b65
        rw [fM_btw, bnp_ok, hb', if_neg (by decide), m1, bnp_ok, if_pos e0, m2]
        rfl
      · have e0 : ¬ nI w = 0 := ne_nI (b := 0) (by omega) (by decide) w0
        have fl3 : FL S S3 := FL_tr fl2 (FL_one d2 (by decide))
        have T3' : TB a.2.1.1 a.2.1.2.2.2 a.2.2.1 S3 := TB_eq T2 (fun q hq => d2 q (by revert q; decide))
        obtain ⟨r, m1, m2, m3, m4⟩ := M_nxt (N := N) (MA_MSt (MA_fl hM fl3)) hG' (nI w) hN
        rw [ez] at m2 m3
        refine ⟨nI (wst a.2.1.1 a.2.1.2.2.2 a.2.2.1 (bs a.2.1.1 a.2.1.2.2.2 a.2.2.1 (2 ^ a.2.1.1 - 2))), S3, r.2.2, by rw [hx1, if_neg e0], ?_, Kp_done hX hM fl3 T3' m4⟩
        unfold f10_next f10_next_b65
        rw [fM_btw, bnp_ok, hb', if_neg (by decide), m1, bnp_ok, if_neg e0, m3]
        rfl
  · have hb' : btw i 0 1 = 0 := hb
    refine ⟨-1, S, S, ?_, ?_, hX, hM, hC⟩
    · unfold f9_next
      rw [fX_btw, bnp_ok, hb', if_pos rfl]
    · unfold f10_next
      rw [fM_btw, bnp_ok, hb', if_pos rfl]
