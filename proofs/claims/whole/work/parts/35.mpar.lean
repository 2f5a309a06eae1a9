/-- the model -/
def MP (σ : PS) (S : Mem) : Prop := (S 59).1 1 = nI σ.2.1.1 ∧ (∀ i, i < σ.2.1.1 → (S 60).1 (4 + i) = nI (σ.2.1.2 i)) ∧ (S 60).1 7 = nI σ.2.2.1.2 ∧ (S 61).1 1 = nI σ.2.2.2.2 ∧ ∃ t, (S 57).1 11 = nI t ∧ t < 8 ∧ bt2 t 1 = bN σ.2.2.1.1 ∧ bt2 t 2 = bN σ.2.2.2.1
/-- the token ahead -/
def LK (B : Nat → Nat) (n p : Nat) (S : Mem) : Prop := (S 57).1 7 = nI (tS B n p) ∧ (S 57).1 8 = nI (mk (tK B n p)) ∧ (S 57).1 6 = nI (tE B n p) ∧ (tK B n p = 5 → (S 57).1 9 = nI (tV B n p))
def FrM (S S' : Mem) : Prop := (S' 57).1 2 = (S 57).1 2 ∧ (S' 57).2 = (S 57).2 ∧ (S' 59).1 0 = (S 59).1 0 ∧ (∀ j, j < 4 → (S' 60).1 j = (S 60).1 j) ∧ (S' 61).1 0 = (S 61).1 0 ∧ ∀ a, a ≠ 57 → a ≠ 59 → a ≠ 60 → a ≠ 61 → S' a = S a
theorem FrM_refl (S : Mem) : FrM S S := ⟨rfl, rfl, rfl, fun _ _ => rfl, rfl, fun _ _ _ _ _ => rfl⟩
theorem FrM_tr {S S' S'' : Mem} (h1 : FrM S S') (h2 : FrM S' S'') : FrM S S'' := ⟨h2.1.trans h1.1, h2.2.1.trans h1.2.1, h2.2.2.1.trans h1.2.2.1, fun j hj => (h2.2.2.2.1 j hj).trans (h1.2.2.2.1 j hj), h2.2.2.2.2.1.trans h1.2.2.2.2.1, fun a x y z w => (h2.2.2.2.2.2 a x y z w).trans (h1.2.2.2.2.2 a x y z w)⟩
theorem FrM_fr {S S' : Mem} (h : Fr S S') : FrM S S' := ⟨h.1 2 (by decide) (by decide) (by decide) (by decide), h.2.1, by rw [h.2.2 59 (by decide)], fun _ _ => by rw [h.2.2 60 (by decide)], by rw [h.2.2 61 (by decide)], fun a x _ _ _ => h.2.2 a x⟩
theorem FrM_57 (S : Mem) (j : Nat) (x : Int32) (hj : j ≠ 2) : FrM S (wr S 57 j x) := ⟨wr_oth (fun z => hj z.symm), wr_long _ _ _ _, by rw [wr_ne _ _ _ _ (by decide)], fun _ _ => by rw [wr_ne _ _ _ _ (by decide)], by rw [wr_ne _ _ _ _ (by decide)], fun a x _ _ _ => wr_ne _ _ _ _ x⟩
theorem FrM_59 (S : Mem) (x : Int32) : FrM S (wr S 59 1 x) := ⟨by rw [wr_ne _ _ _ _ (by decide)], by rw [wr_ne _ _ _ _ (by decide)], wr_oth (by decide), fun _ _ => by rw [wr_ne _ _ _ _ (by decide)], by rw [wr_ne _ _ _ _ (by decide)], fun a _ x _ _ => wr_ne _ _ _ _ x⟩
theorem FrM_60 (S : Mem) (j : Nat) (x : Int32) (hj : 4 ≤ j) : FrM S (wr S 60 j x) := ⟨by rw [wr_ne _ _ _ _ (by decide)], by rw [wr_ne _ _ _ _ (by decide)], by rw [wr_ne _ _ _ _ (by decide)], fun i hi => wr_oth (by omega), by rw [wr_ne _ _ _ _ (by decide)], fun a _ _ x _ => wr_ne _ _ _ _ x⟩
theorem FrM_61 (S : Mem) (x : Int32) : FrM S (wr S 61 1 x) := ⟨by rw [wr_ne _ _ _ _ (by decide)], by rw [wr_ne _ _ _ _ (by decide)], by rw [wr_ne _ _ _ _ (by decide)], fun _ _ => by rw [wr_ne _ _ _ _ (by decide)], wr_oth (by decide), fun a _ _ _ x => wr_ne _ _ _ _ x⟩
theorem FrM_MTx {n : Nat} {B : Nat → Nat} {S S' : Mem} (h : MTx n B S) (f : FrM S S') : MTx n B S' := MTx_eq h f.1 (f.2.2.2.2.2 58 (by decide) (by decide) (by decide) (by decide))
theorem MP_57 {σ : PS} {S S' : Mem} (h : MP σ S) (h11 : (S' 57).1 11 = (S 57).1 11) (he : ∀ a, a ≠ 57 → S' a = S a) : MP σ S' := by
  unfold MP
  rw [he 59 (by decide), he 60 (by decide), he 61 (by decide), h11]
  exact h
theorem M_next {n : Nat} {B : Nat → Nat} {S : Mem} {N p : Nat} (h : MTx n B S) (hB : GTx n B) (hp : p ≤ n) (hN : 200 < N) (h6 : (S 57).1 6 = nI p) : ∃ S', f10_nextToken N S = some ((), S') ∧ LK B n p S' ∧ Fr S S' := by
  obtain ⟨S', a1, a2, a3, a4, a5, a6⟩ := M_token h hB hp hN h6
  exact ⟨S', a1, ⟨a2, a3, a4, a5⟩, a6⟩
theorem M_due0 {S : Mem} {N : Nat} (h : (S 57).1 10 = -9) : f10_due N 0 S = some ((S 57).1 9, wr S 57 10 ((S 57).1 7)) := by
  unfold f10_due
  rw [lt_ok, if_pos h, if_pos rfl, lt_ok]
theorem M_dueF {S : Mem} {N : Nat} (w : Int32) (h : ¬ (S 57).1 10 = -9) : f10_due N w S = some ((S 57).1 9, S) := by
  unfold f10_due
  rw [lt_ok, if_neg h]
theorem M_due1 {n : Nat} {B : Nat → Nat} {S : Mem} {N p : Nat} (h : MTx n B S) (hB : GTx n B) (hp : p ≤ n) (hN : 200 < N) (h6 : (S 57).1 6 = nI p) (hf : (S 57).1 10 = -9) : ∃ S', f10_due N 1 S = some ((S 57).1 9, S') ∧ LK B n p S' ∧ Fr S S' := by
  obtain ⟨S', a1, a2, a3⟩ := M_next h hB hp hN h6
  refine ⟨S', ?_, a2, a3⟩
  unfold f10_due
  rw [lt_ok, if_pos hf, if_neg (by decide), a1, bnd_ok]
theorem mk_eq : ∀ k, k < 7 → ((nI (mk k) = 3) = (k = 0) ∧ (nI (mk k) = 0) = (k = 2) ∧ (nI (mk k) = 1) = (k = 3) ∧ (nI (mk k) = 2) = (k = 4) ∧ (nI (mk k) = 4) = (k = 5) ∧ (nI (mk k) = 5) = (k = 6)) ∧ mk k < 7 := by decide
theorem M_number {n : Nat} {B : Nat → Nat} {S : Mem} {N p a b : Nat} (h : MTx n B S) (hB : GTx n B) (hp : p ≤ n) (hN : 200 < N) (hL : LK B n p S) (hf : (S 57).1 10 = -9) (ha : a < 100) (hb : b < 100) : ∃ x S', f10_number N (nI a) (nI b) S = some (x, S') ∧ ((tK B n p = 5 ∧ a ≤ tV B n p ∧ tV B n p ≤ b ∧ x = nI (tV B n p) ∧ LK B n (tE B n p) S' ∧ Fr S S') ∨ (¬ (tK B n p = 5 ∧ a ≤ tV B n p ∧ tV B n p ≤ b) ∧ S' = wr S 57 10 (nI (tS B n p)))) := by
  have hk := (mk_eq (tK B n p) (tK_lt B n p)).1.2.2.2.2.1
  obtain ⟨l1, l2, l3, l4⟩ := hL
  unfold f10_number f10_number_b25 f10_number_b26
  rw [M_due0 hf, l1, l2]
  by_cases h5 : tK B n p = 5
  · have hv := tV_lt hB hp h5
    rw [if_pos (hk.mpr h5), l4 h5, fM_btw, bnp_ok, btw_nat hv (by omega) (by omega)]
    by_cases hr : a ≤ tV B n p ∧ tV B n p ≤ b
    · rw [decide_eq_true hr, if_neg (show ¬ bI true = 0 by decide)]
      obtain ⟨S', a1, a2, a3⟩ := M_due1 h hB (tk_le hp) hN l3 hf
      rw [a1, bnd_ok, l4 h5]
      exact ⟨_, S', rfl, Or.inl ⟨h5, hr.1, hr.2, rfl, a2, a3⟩⟩
    · rw [decide_eq_false hr, if_pos (show bI false = 0 by decide)]
      exact ⟨_, _, rfl, Or.inr ⟨fun z => hr z.2, rfl⟩⟩
  · rw [if_neg (fun z => h5 (hk.mp z))]
    exact ⟨_, _, rfl, Or.inr ⟨fun z => h5 z.1, rfl⟩⟩
theorem M_stop {n : Nat} {B : Nat → Nat} {S : Mem} {N p : Nat} (h : MTx n B S) (hB : GTx n B) (hp : p ≤ n) (hN : 200 < N) (hL : LK B n p S) (hf : (S 57).1 10 = -9) : ∃ S', f10_readItem_b143 N S = some ((), S') ∧ ((tK B n p = 6 ∧ LK B n (tE B n p) S' ∧ Fr S S') ∨ (¬ tK B n p = 6 ∧ S' = wr S 57 10 (nI (tS B n p)))) := by
  have hk := (mk_eq (tK B n p) (tK_lt B n p)).1.2.2.2.2.2
  obtain ⟨l1, l2, l3, l4⟩ := hL
  unfold f10_readItem_b143 f10_readItem_b157
  rw [M_due0 hf, l1, l2]
  by_cases h5 : tK B n p = 6
  · rw [if_pos (hk.mpr h5)]
    obtain ⟨S', a1, a2, a3⟩ := M_due1 h hB (tk_le hp) hN l3 hf
    rw [a1, bnd_ok]
    exact ⟨S', rfl, Or.inl ⟨h5, a2, a3⟩⟩
  · rw [if_neg (fun z => h5 (hk.mp z))]
    exact ⟨_, rfl, Or.inr ⟨h5, rfl⟩⟩
theorem M_stopF {S : Mem} {N : Nat} (hf : ¬ (S 57).1 10 = -9) : f10_readItem_b143 N S = some ((), S) := by
  unfold f10_readItem_b143 f10_readItem_b157
  rw [M_dueF _ hf, M_dueF _ hf, bnd_ok]
  split <;> rfl
theorem tbit : ∀ t, t < 8 → ∀ v, v < 3 → (nI t ||| ((1 : Int32) <<< (nI v &&& 31))) = nI (t ||| 2 ^ v) ∧ t ||| 2 ^ v < 8 := by decide
theorem tbit0 : ∀ t, t < 8 → bt2 (t ||| 2 ^ 0) 1 = bt2 t 1 ∧ bt2 (t ||| 2 ^ 0) 2 = bt2 t 2 := by decide
theorem tbit1 : ∀ t, t < 8 → bt2 (t ||| 2 ^ 1) 1 = 1 ∧ bt2 (t ||| 2 ^ 1) 2 = bt2 t 2 := by decide
theorem tbit2 : ∀ t, t < 8 → bt2 (t ||| 2 ^ 2) 1 = bt2 t 1 ∧ bt2 (t ||| 2 ^ 2) 2 = 1 := by decide
theorem ne_m9 {s : Nat} (h : s < 2 ^ 31) : ¬ nI s = -9 := fun e => nI_pos h (by rw [e]; decide)
theorem LK_57 {n p : Nat} {B : Nat → Nat} {S S' : Mem} (h : LK B n p S) (e : ∀ j, j = 6 ∨ j = 7 ∨ j = 8 ∨ j = 9 → (S' 57).1 j = (S 57).1 j) : LK B n p S' := by
  unfold LK
  rw [e 7 (by decide), e 8 (by decide), e 6 (by decide), e 9 (by decide)]
  exact h
/-- may it begin -/
theorem M_begin {n : Nat} {B : Nat → Nat} {S : Mem} {N : Nat} {σ : PS} (hG : GP n σ) (hX : MP σ S) (hL : LK B n σ.1 S) (h0 : tK B n σ.1 ≠ 0) : f10_readItem N S = f10_readItem_b45 N (nI (mk (tK B n σ.1))) (bI (mayB (tK B n σ.1) σ)) S := by
  obtain ⟨⟨m3, m0, m1, m2, m4, m5⟩, m7⟩ := mk_eq (tK B n σ.1) (tK_lt B n σ.1)
  obtain ⟨x1, x2, x3, x4, t, x5, x6, x7, x8⟩ := hX
  have hT := hG.2.1
  have hb := btw_nat (v := mk (tK B n σ.1)) (a := 1) (b := 2) (by omega) (by decide) (by decide)
  rw [show nI 1 = 1 from rfl, show nI 2 = 2 from rfl] at hb
  unfold f10_readItem f10_readItem_b20 f10_readItem_b40 f10_readItem_b44 mayB
  rw [lt_ok, hL.2.1, if_neg (show ¬ ((1 : Int32) < 0 ∨ 2 ≤ (1 : Int32).toNatClampNeg) by decide), lt_ok, c1, x1, x5, fM_btw, bnp_ok, hb]
  simp only [m0]
  by_cases k2 : tK B n σ.1 = 2
  · rw [if_pos k2, if_pos k2]
    by_cases hlt : σ.2.1.1 < 3
    · rw [if_pos (show nI σ.2.1.1 < 3 from nI_lt (b := 3) hlt (by decide)), decide_eq_true hlt]; rfl
    · rw [if_neg (show ¬ nI σ.2.1.1 < 3 from nI_nlt (b := σ.2.1.1) (a := 3) (by omega) (by omega) |> fun z => by rw [show σ.2.1.1 = 3 by omega]; decide), decide_eq_false hlt, k2, if_pos (by decide)]; rfl
  · rw [if_neg k2, if_neg k2]
    by_cases k3 : tK B n σ.1 = 3
    · rw [if_pos k3, k3, if_neg (by decide), show mk 3 = 1 from rfl, bit_nI (by omega) (by decide), x7]
      cases σ.2.2.1.1 <;> rfl
    · rw [if_neg k3]
      by_cases k4 : tK B n σ.1 = 4
      · rw [if_pos k4, k4, if_neg (by decide), show mk 4 = 2 from rfl, bit_nI (by omega) (by decide), x8]
        cases σ.2.2.2.1 <;> rfl
      · rw [if_neg k4]
        have hk := tK_lt B n σ.1
        have hz : ¬ (1 ≤ mk (tK B n σ.1) ∧ mk (tK B n σ.1) ≤ 2) := by
          generalize tK B n σ.1 = k at *
          rcases (show k = 1 ∨ k = 5 ∨ k = 6 by omega) with rfl | rfl | rfl <;> decide
        rw [decide_eq_false hz, if_pos (by decide)]
        rfl
/-- the value of a number, then its stop -/
def Mr (B : Nat → Nat) (n : Nat) (σ : PS) (S' : Mem) : Prop :=
  match pst B n σ with
  | .inl τ => (S' 57).1 10 = -9 ∧ MP τ S' ∧ LK B n τ.1 S'
  | .inr none => False
  | .inr (some f) => (S' 57).1 10 = nI f
theorem M_tail {n : Nat} {B : Nat → Nat} {S S4 : Mem} {N : Nat} {σ : PS} (h : MTx n B S) (hB : GTx n B) (hG : GP n σ) (h0 : tK B n σ.1 ≠ 0) (h1 : mayB (tK B n σ.1) σ = true) (hN : 200 < N) (f : FrM S S4)
    (hc : (tK B n (tE B n σ.1) = 5 ∧ mayT (tK B n σ.1) (tV B n (tE B n σ.1)) = true ∧ LK B n (tE B n (tE B n σ.1)) S4 ∧ (S4 57).1 10 = -9 ∧ MP (takeP (tK B n σ.1) (tV B n (tE B n σ.1)) (tE B n (tE B n (tE B n σ.1))) σ) S4) ∨ ((tK B n (tE B n σ.1) ≠ 5 ∨ mayT (tK B n σ.1) (tV B n (tE B n σ.1)) = false) ∧ (S4 57).1 10 = nI (tS B n (tE B n σ.1)))) :
    ∃ S', f10_readItem_b143 N S4 = some ((), S') ∧ Mr B n σ S' ∧ FrM S S' := by
  have hn := hB.1
  have hp1 := tk_le (B := B) hG.1
  have hp2 := tk_le (B := B) hp1
  have hp3 := tk_le (B := B) hp2
  unfold Mr pst
  simp only [if_neg h0, h1, Bool.true_eq_false, if_false]
  rcases hc with ⟨c1, c2, c3, c4, c5⟩ | ⟨c1, c2⟩
  · simp only [if_neg (show ¬ (tK B n (tE B n σ.1) ≠ 5 ∨ mayT (tK B n σ.1) (tV B n (tE B n σ.1)) = false) from fun z => z.elim (fun z => z c1) (fun z => by rw [c2] at z; cases z))]
    obtain ⟨S5, a1, ⟨a2, a3, a4⟩ | ⟨a2, a3⟩⟩ := M_stop (FrM_MTx h f) hB hp2 hN c3 c4
    · simp only [if_neg (show ¬ (tK B n (tE B n (tE B n σ.1)) ≠ 6) from fun z => z a2)]
      refine ⟨S5, a1, ⟨(a4.1 10 (by decide) (by decide) (by decide) (by decide)).trans c4, MP_57 c5 (a4.1 11 (by decide) (by decide) (by decide) (by decide)) a4.2.2, ?_⟩, FrM_tr f (FrM_fr a4)⟩
      unfold takeP
      split
      · exact a3
      · split <;> exact a3
    · simp only [if_pos (show tK B n (tE B n (tE B n σ.1)) ≠ 6 from a2)]
      exact ⟨S5, a1, by rw [a3]; exact wr_val _ _ _ _, by rw [a3]; exact FrM_tr f (FrM_57 _ _ _ (by decide))⟩
  · simp only [if_pos c1]
    have hs := tS_le (B := B) hp1
    refine ⟨S4, M_stopF ?_, c2, f⟩
    rw [c2]
    exact ne_m9 (by omega)
theorem M_item {n : Nat} {B : Nat → Nat} {S : Mem} {N : Nat} {σ : PS} (h : MTx n B S) (hB : GTx n B) (hG : GP n σ) (hX : MP σ S) (hL : LK B n σ.1 S) (hf : (S 57).1 10 = -9) (h0 : tK B n σ.1 ≠ 0) (hN : 200 < N) : ∃ S', f10_readItem N S = some ((), S') ∧ Mr B n σ S' ∧ FrM S S' := by
  have hp := hG.1
  have hk := tK_lt B n σ.1
  obtain ⟨⟨m3, m0, m1, m2, m4, m5⟩, m7⟩ := mk_eq (tK B n σ.1) hk
  rw [M_begin hG hX hL h0]
  unfold f10_readItem_b45 Mr pst
  simp only [if_neg h0]
  by_cases h1 : mayB (tK B n σ.1) σ = false
  · simp only [if_pos h1]
    rw [h1, show bI false = 0 from rfl, M_due0 hf, bnd_ok, wr_val, hL.1, if_neg (ne_m9 (by have := tS_le (B := B) hp; have := hB.1; omega))]
    exact ⟨_, rfl, wr_val _ _ _ _, FrM_57 _ _ _ (by decide)⟩
  · have hB1 := eq_true_of_ne_false h1
    simp only [if_neg h1]
    have hp1 := tk_le (B := B) hp
    have hp2 := tk_le (B := B) hp1
    have hp3 := tk_le (B := B) hp2
    obtain ⟨S1, a1, a2, a3⟩ := M_due1 h hB hp1 hN hL.2.2.1 hf
    have f1 : (S1 57).1 10 = -9 := (a3.1 10 (by decide) (by decide) (by decide) (by decide)).trans hf
    obtain ⟨x1, x2, x3, x4, t, x5, x6, x7, x8⟩ := MP_57 hX (a3.1 11 (by decide) (by decide) (by decide) (by decide)) a3.2.2
    rw [hB1, show bI true = 1 from rfl, a1, bnd_ok, if_pos f1, x5]
    have sv : ∀ v, v < 3 → ∃ S2, (lt_ (wr S1 57 11 (nI t ||| (1 : Int32) <<< (nI v &&& 31)))) = (lt_ S2 : (Mem → Option (Unit × Mem)) → Option (Unit × Mem)) ∧ (S2 57).1 11 = nI (t ||| 2 ^ v) ∧ t ||| 2 ^ v < 8 ∧ (S2 57).1 10 = -9 ∧ LK B n (tE B n σ.1) S2 ∧ FrM S S2 ∧ ∀ a, a ≠ 57 → S2 a = S1 a := by
      intro v hv
      obtain ⟨y1, y2⟩ := tbit t x6 v hv
      rw [y1]
      exact ⟨_, rfl, wr_val _ _ _ _, y2, (wr_oth (by decide)).trans f1, LK_57 a2 (fun j hj => wr_oth (by omega)), FrM_tr (FrM_fr a3) (FrM_57 _ _ _ (by decide)), fun a ha => wr_ne _ _ _ _ ha⟩
    have tl := fun S4 => M_tail (S4 := S4) (N := N) h hB hG h0 hB1 hN
    unfold Mr pst at tl
    simp only [if_neg h0, if_neg h1] at tl
    rcases mayB_k hB1 with ⟨k2, hT⟩ | ⟨k3, hT⟩ | ⟨k4, hT⟩
    · obtain ⟨S2, b1, b2, b3, b4, b5, b6, b7⟩ := sv 0 (by decide)
      obtain ⟨q1, q2⟩ := tbit0 t x6
      rw [k2] at tl ⊢
      rw [show mk 2 = 0 from rfl, b1, lt_ok, if_pos (show nI 0 = 0 from rfl), if_neg (show ¬ ((1 : Int32) < 0 ∨ 2 ≤ (1 : Int32).toNatClampNeg) by decide), lt_ok, c1]
      obtain ⟨x, S3, d1, d2⟩ := M_number (N := N) (FrM_MTx h b6) hB hp1 hN b5 b4 (show 1 < 100 by decide) (show 9 < 100 by decide)
      have e4 : (4 : Int32) + nI σ.2.1.1 = nI (4 + σ.2.1.1) := nI_add 4 _
      rw [show (1 : Int32) = nI 1 from rfl, show (9 : Int32) = nI 9 from rfl, d1, bnd_ok, b7 59 (by decide), x1, e4, if_neg (nI_in (by omega) (by decide)), lt_ok, nI_clamp (by omega)]
      rw [if_neg (show ¬ (nI 1 < 0 ∨ 2 ≤ 1) by decide), lt_ok, if_neg (show ¬ (nI 1 < 0 ∨ 2 ≤ 1) by decide), wr_ne _ _ _ _ (by decide)]
      have e59 : (S3 59).1 1 = nI σ.2.1.1 := by
        rcases d2 with ⟨-, -, -, -, -, g⟩ | ⟨-, g⟩
        · rw [g.2.2 59 (by decide), b7 59 (by decide)]; exact x1
        · rw [g, wr_ne _ _ _ _ (by decide), b7 59 (by decide)]; exact x1
      rw [e59, nI_add, lt_ok]
      have f3 : FrM S S3 := by
        rcases d2 with ⟨-, -, -, -, -, g⟩ | ⟨-, g⟩
        · exact FrM_tr b6 (FrM_fr g)
        · rw [g]; exact FrM_tr b6 (FrM_57 _ _ _ (by decide))
      refine tl _ (FrM_tr f3 (FrM_tr (FrM_60 _ _ _ (by omega)) (FrM_59 _ _))) ?_
      rcases d2 with ⟨g1, g2, g3, g4, g5, g6⟩ | ⟨g1, g2⟩
      · refine Or.inl ⟨g1, decide_eq_true ⟨g2, g3⟩, LK_57 g5 (fun j hj => by rw [wr_ne _ _ _ _ (by decide), wr_ne _ _ _ _ (by decide)]), ?_, ?_, fun i hi => ?_, ?_, ?_, t ||| 2 ^ 0, ?_, b3, ?_, ?_⟩
        · rw [wr_ne _ _ _ _ (by decide), wr_ne _ _ _ _ (by decide), g6.1 10 (by decide) (by decide) (by decide) (by decide)]; exact b4
        · exact wr_val _ _ _ _
        · have hi : i < σ.2.1.1 + 1 := hi
          rw [wr_ne _ _ _ _ (by decide)]
          show _ = nI (if i = σ.2.1.1 then tV B n (tE B n σ.1) else σ.2.1.2 i)
          by_cases e : i = σ.2.1.1
          · rw [if_pos e, e, wr_val, g4]
          · rw [if_neg e, wr_oth (by omega), g6.2.2 60 (by decide), b7 60 (by decide)]; exact x2 i (by omega)
        · rw [wr_ne _ _ _ _ (by decide), wr_oth (by omega), g6.2.2 60 (by decide), b7 60 (by decide)]; exact x3
        · rw [wr_ne _ _ _ _ (by decide), wr_ne _ _ _ _ (by decide), g6.2.2 61 (by decide), b7 61 (by decide)]; exact x4
        · rw [wr_ne _ _ _ _ (by decide), wr_ne _ _ _ _ (by decide), g6.1 11 (by decide) (by decide) (by decide) (by decide)]; exact b2
        · exact q1.trans x7
        · exact q2.trans x8
      · refine Or.inr ⟨?_, ?_⟩
        · by_cases z : tK B n (tE B n σ.1) = 5
          · exact Or.inr (decide_eq_false (fun z2 => g1 ⟨z, z2⟩))
          · exact Or.inl z
        · rw [wr_ne _ _ _ _ (by decide), wr_ne _ _ _ _ (by decide), g2]; exact wr_val _ _ _ _
    · obtain ⟨S2, b1, b2, b3, b4, b5, b6, b7⟩ := sv 1 (by decide)
      obtain ⟨q1, q2⟩ := tbit1 t x6
      rw [k3] at tl ⊢
      rw [show mk 3 = 1 from rfl, b1, lt_ok, if_neg (show ¬ nI 1 = 0 by decide), if_pos (show nI 1 = 1 from rfl)]
      obtain ⟨x, S3, d1, d2⟩ := M_number (N := N) (FrM_MTx h b6) hB hp1 hN b5 b4 (show 0 < 100 by decide) (show 9 < 100 by decide)
      rw [show (0 : Int32) = nI 0 from rfl, show (9 : Int32) = nI 9 from rfl, d1, bnd_ok, if_neg (show ¬ ((7 : Int32) < nI 0 ∨ 8 ≤ (7 : Int32).toNatClampNeg) by decide), lt_ok, show (7 : Int32).toNatClampNeg = 7 by decide]
      have f3 : FrM S S3 := by
        rcases d2 with ⟨-, -, -, -, -, g⟩ | ⟨-, g⟩
        · exact FrM_tr b6 (FrM_fr g)
        · rw [g]; exact FrM_tr b6 (FrM_57 _ _ _ (by decide))
      refine tl _ (FrM_tr f3 (FrM_60 _ _ _ (by decide))) ?_
      rcases d2 with ⟨g1, g2, g3, g4, g5, g6⟩ | ⟨g1, g2⟩
      · refine Or.inl ⟨g1, decide_eq_true g3, LK_57 g5 (fun j hj => by rw [wr_ne _ _ _ _ (by decide)]), ?_, ?_, fun i hi => ?_, ?_, ?_, t ||| 2 ^ 1, ?_, b3, ?_, ?_⟩
        · rw [wr_ne _ _ _ _ (by decide), g6.1 10 (by decide) (by decide) (by decide) (by decide)]; exact b4
        · rw [wr_ne _ _ _ _ (by decide), g6.2.2 59 (by decide), b7 59 (by decide)]; exact x1
        · have hT3 := hG.2.1
          have hi : i < σ.2.1.1 := hi
          rw [wr_oth (by omega), g6.2.2 60 (by decide), b7 60 (by decide)]; exact x2 i hi
        · rw [wr_val, g4]; rfl
        · rw [wr_ne _ _ _ _ (by decide), g6.2.2 61 (by decide), b7 61 (by decide)]; exact x4
        · rw [wr_ne _ _ _ _ (by decide), g6.1 11 (by decide) (by decide) (by decide) (by decide)]; exact b2
        · exact q1
        · exact q2.trans x8
      · refine Or.inr ⟨?_, ?_⟩
        · by_cases z : tK B n (tE B n σ.1) = 5
          · exact Or.inr (decide_eq_false (fun z2 => g1 ⟨z, Nat.zero_le _, z2⟩))
          · exact Or.inl z
        · rw [wr_ne _ _ _ _ (by decide), g2]; exact wr_val _ _ _ _
    · obtain ⟨S2, b1, b2, b3, b4, b5, b6, b7⟩ := sv 2 (by decide)
      obtain ⟨q1, q2⟩ := tbit2 t x6
      rw [k4] at tl ⊢
      rw [show mk 4 = 2 from rfl, b1, lt_ok, if_neg (show ¬ nI 2 = 0 by decide), if_neg (show ¬ nI 2 = 1 by decide)]
      obtain ⟨x, S3, d1, d2⟩ := M_number (N := N) (FrM_MTx h b6) hB hp1 hN b5 b4 (show 2 < 100 by decide) (show 20 < 100 by decide)
      rw [show (2 : Int32) = nI 2 from rfl, show (20 : Int32) = nI 20 from rfl, d1, bnd_ok, if_neg (show ¬ ((1 : Int32) < 0 ∨ 2 ≤ (1 : Int32).toNatClampNeg) by decide), lt_ok, show (1 : Int32).toNatClampNeg = 1 by decide]
      have f3 : FrM S S3 := by
        rcases d2 with ⟨-, -, -, -, -, g⟩ | ⟨-, g⟩
        · exact FrM_tr b6 (FrM_fr g)
        · rw [g]; exact FrM_tr b6 (FrM_57 _ _ _ (by decide))
      refine tl _ (FrM_tr f3 (FrM_61 _ _)) ?_
      rcases d2 with ⟨g1, g2, g3, g4, g5, g6⟩ | ⟨g1, g2⟩
      · refine Or.inl ⟨g1, decide_eq_true ⟨g2, g3⟩, LK_57 g5 (fun j hj => by rw [wr_ne _ _ _ _ (by decide)]), ?_, ?_, fun i hi => ?_, ?_, ?_, t ||| 2 ^ 2, ?_, b3, ?_, ?_⟩
        · rw [wr_ne _ _ _ _ (by decide), g6.1 10 (by decide) (by decide) (by decide) (by decide)]; exact b4
        · rw [wr_ne _ _ _ _ (by decide), g6.2.2 59 (by decide), b7 59 (by decide)]; exact x1
        · rw [wr_ne _ _ _ _ (by decide), g6.2.2 60 (by decide), b7 60 (by decide)]; exact x2 i hi
        · rw [wr_ne _ _ _ _ (by decide), g6.2.2 60 (by decide), b7 60 (by decide)]; exact x3
        · rw [wr_val, g4]; rfl
        · rw [wr_ne _ _ _ _ (by decide), g6.1 11 (by decide) (by decide) (by decide) (by decide)]; exact b2
        · exact q1.trans x7
        · exact q2
      · refine Or.inr ⟨?_, ?_⟩
        · by_cases z : tK B n (tE B n σ.1) = 5
          · exact Or.inr (decide_eq_false (fun z2 => g1 ⟨z, z2⟩))
          · exact Or.inl z
        · rw [wr_ne _ _ _ _ (by decide), g2]; exact wr_val _ _ _ _
