/-! THE LINES OF A MARKET -/
abbrev PS : Type := Nat × (Nat × (Nat → Nat)) × (Bool × Nat) × (Bool × Nat)
def mayB (k : Nat) (σ : PS) : Bool := if k = 2 then decide (σ.2.1.1 < 3) else if k = 3 then !σ.2.2.1.1 else if k = 4 then !σ.2.2.2.1 else false
def mayT (k v : Nat) : Bool := if k = 2 then decide (1 ≤ v ∧ v ≤ 9) else if k = 3 then decide (v ≤ 9) else decide (2 ≤ v ∧ v ≤ 20)
def takeP (k v p : Nat) (σ : PS) : PS := if k = 2 then (p, (σ.2.1.1 + 1, fun j => if j = σ.2.1.1 then v else σ.2.1.2 j), σ.2.2) else if k = 3 then (p, σ.2.1, (true, v), σ.2.2.2) else (p, σ.2.1, σ.2.2.1, (true, v))
def bN (b : Bool) : Nat := if b = true then 1 else 0
def cnt (σ : PS) : Nat := σ.2.1.1 + bN σ.2.2.1.1 + bN σ.2.2.2.1
def GP (n : Nat) (σ : PS) : Prop := σ.1 ≤ n ∧ σ.2.1.1 ≤ 3 ∧ (∀ i, i < σ.2.1.1 → 1 ≤ σ.2.1.2 i ∧ σ.2.1.2 i ≤ 9) ∧ σ.2.2.1.2 ≤ 9 ∧ 2 ≤ σ.2.2.2.2 ∧ σ.2.2.2.2 ≤ 20
def pst (B : Nat → Nat) (n : Nat) (σ : PS) : PS ⊕ Option Nat :=
  if tK B n σ.1 = 0 then .inr none
  else if mayB (tK B n σ.1) σ = false then .inr (some (tS B n σ.1))
  else if tK B n (tE B n σ.1) ≠ 5 ∨ mayT (tK B n σ.1) (tV B n (tE B n σ.1)) = false then .inr (some (tS B n (tE B n σ.1)))
  else if tK B n (tE B n (tE B n σ.1)) ≠ 6 then .inr (some (tS B n (tE B n (tE B n σ.1))))
  else .inl (takeP (tK B n σ.1) (tV B n (tE B n σ.1)) (tE B n (tE B n (tE B n σ.1))) σ)
theorem mayB_k {k : Nat} {σ : PS} (h : mayB k σ = true) : (k = 2 ∧ σ.2.1.1 < 3) ∨ (k = 3 ∧ σ.2.2.1.1 = false) ∨ (k = 4 ∧ σ.2.2.2.1 = false) := by
  unfold mayB at h
  by_cases h2 : k = 2
  · rw [if_pos h2] at h
    exact Or.inl ⟨h2, of_decide_eq_true h⟩
  · rw [if_neg h2] at h
    by_cases h3 : k = 3
    · rw [if_pos h3] at h
      exact Or.inr (Or.inl ⟨h3, by revert h; cases σ.2.2.1.1 <;> decide⟩)
    · rw [if_neg h3] at h
      by_cases h4 : k = 4
      · rw [if_pos h4] at h
        exact Or.inr (Or.inr ⟨h4, by revert h; cases σ.2.2.2.1 <;> decide⟩)
      · rw [if_neg h4] at h
        cases h
theorem tk_le {B : Nat → Nat} {n p : Nat} (h : p ≤ n) : tE B n p ≤ n := (tE_le h).2
theorem takeP_cnt {k v p : Nat} {σ : PS} (h : mayB k σ = true) : cnt (takeP k v p σ) = cnt σ + 1 := by
  rcases mayB_k h with ⟨rfl, h2⟩ | ⟨rfl, h2⟩ | ⟨rfl, h2⟩
  · simp only [takeP, if_true, cnt]; omega
  · simp only [takeP, if_true, cnt, h2, bN, show ¬ (3 = 2) by decide, if_false, Bool.false_eq_true]
    omega
  · simp only [takeP, if_true, cnt, h2, bN, show ¬ (4 = 2) by decide, show ¬ (4 = 3) by decide, if_false, Bool.false_eq_true]
theorem takeP_G {n k v p : Nat} {σ : PS} (h : mayB k σ = true) (hv : mayT k v = true) (hp : p ≤ n) (hG : GP n σ) : GP n (takeP k v p σ) := by
  obtain ⟨g1, g2, g3, g4, g5⟩ := hG
  rcases mayB_k h with ⟨rfl, h2⟩ | ⟨rfl, h2⟩ | ⟨rfl, h2⟩
  · have hv2 : 1 ≤ v ∧ v ≤ 9 := of_decide_eq_true hv
    refine ⟨hp, h2, fun i hi => ?_, g4, g5⟩
    have hi : i < σ.2.1.1 + 1 := hi
    show 1 ≤ (if i = σ.2.1.1 then v else σ.2.1.2 i) ∧ (if i = σ.2.1.1 then v else σ.2.1.2 i) ≤ 9
    by_cases e : i = σ.2.1.1
    · rw [if_pos e]; exact hv2
    · rw [if_neg e]; exact g3 i (by omega)
  · have hv2 : v ≤ 9 := of_decide_eq_true hv
    exact ⟨hp, g2, g3, hv2, g5⟩
  · have hv2 : 2 ≤ v ∧ v ≤ 20 := of_decide_eq_true hv
    exact ⟨hp, g2, g3, g4, hv2⟩
theorem pst_ok {B : Nat → Nat} {n : Nat} {σ τ : PS} (hG : GP n σ) (h : pst B n σ = .inl τ) : GP n τ ∧ cnt τ = cnt σ + 1 := by
  unfold pst at h
  by_cases h0 : tK B n σ.1 = 0
  · rw [if_pos h0] at h; cases h
  · rw [if_neg h0] at h
    by_cases h1 : mayB (tK B n σ.1) σ = false
    · rw [if_pos h1] at h; cases h
    · rw [if_neg h1] at h
      have h1 := eq_true_of_ne_false h1
      by_cases h2 : tK B n (tE B n σ.1) ≠ 5 ∨ mayT (tK B n σ.1) (tV B n (tE B n σ.1)) = false
      · rw [if_pos h2] at h; cases h
      · rw [if_neg h2] at h
        have h2 : mayT (tK B n σ.1) (tV B n (tE B n σ.1)) = true := eq_true_of_ne_false (fun z => h2 (Or.inr z))
        by_cases h3 : tK B n (tE B n (tE B n σ.1)) ≠ 6
        · rw [if_pos h3] at h; cases h
        · rw [if_neg h3] at h
          cases h
          exact ⟨takeP_G h1 h2 (tk_le (tk_le (tk_le hG.1))) hG, takeP_cnt h1⟩
theorem cnt_le {n : Nat} {σ : PS} (hG : GP n σ) : cnt σ ≤ 5 := by
  have := hG.2.1
  unfold cnt bN
  split <;> split <;> omega
/-- the class -/
def XP (σ : PS) (S : Mem) : Prop := (S 5).1 2 = nI σ.2.1.1 ∧ (∀ i, i < σ.2.1.1 → (S 7).1 i = nI (σ.2.1.2 i)) ∧ (S 5).1 3 = nI σ.2.2.1.2 ∧ (S 5).1 4 = nI σ.2.2.2.2 ∧ (S 4).1 3 = bI σ.2.2.1.1 ∧ (S 4).1 4 = bI σ.2.2.2.1 ∧ (S 4).1 2 = nI (cnt σ)
theorem XP_tok {σ : PS} {S S' : Mem} (h : XP σ S) (h4 : ∀ j, j < 5 → (S' 4).1 j = (S 4).1 j) (he : ∀ a, a ≠ 4 → S' a = S a) : XP σ S' := by
  unfold XP
  rw [h4 3 (by decide), h4 4 (by decide), h4 2 (by decide), he 5 (by decide), he 7 (by decide)]
  exact h
theorem X_mayB {σ : PS} {S : Mem} {N k : Nat} (h : XP σ S) (hT : σ.2.1.1 ≤ 3) (hk : k < 8) : f4_mayBegin N (nI k) S = some (bI (mayB k σ)) := by
  obtain ⟨h1, h2, h3, h4, h5, h6, h7⟩ := h
  unfold f4_mayBegin f6_things_5 mayB
  rw [h1, h5, h6, show (2 : Int32) = nI 2 from rfl, show (3 : Int32) = nI 3 from rfl, show (4 : Int32) = nI 4 from rfl]
  simp (disch := omega) only [nI_eq]
  by_cases k2 : k = 2
  · simp only [k2, if_true, bnp_ok]
    by_cases h : σ.2.1.1 < 3
    · rw [if_neg (show ¬ nI 3 ≤ nI σ.2.1.1 from nI_ge h (by decide)), decide_eq_true h]; rfl
    · rw [if_pos (show nI 3 ≤ nI σ.2.1.1 from nI_le (by omega) (by omega)), decide_eq_false h]; rfl
  · by_cases k3 : k = 3
    · simp only [k3, if_true, if_false, show ¬ (3 = 2) by decide]
      cases σ.2.2.1.1 <;> rfl
    · by_cases k4 : k = 4
      · simp only [k4, if_true, if_false, show ¬ (4 = 2) by decide, show ¬ (4 = 3) by decide]
        cases σ.2.2.2.1 <;> rfl
      · simp only [k2, k3, k4, if_false]
        rfl
theorem btw_nat {v a b : Nat} (hv : v < 2 ^ 31) (ha : a < 2 ^ 31) (hb : b < 2 ^ 31) : btw (nI v) (nI a) (nI b) = bI (decide (a ≤ v ∧ v ≤ b)) := by
  rw [btw_nI hv ha hb]
  by_cases h : a ≤ v ∧ v ≤ b
  · rw [if_pos h, decide_eq_true h]; rfl
  · rw [if_neg h, decide_eq_false h]; rfl
theorem X_mayT {S : Mem} {N k v : Nat} (hk : k < 8) (hv : v < 2 ^ 31) (h7 : (S 4).1 7 = nI v) : f4_mayTake N (nI k) S = some (bI (mayT k v)) := by
  unfold f4_mayTake mayT
  rw [h7]
  simp only [show (nI k = 2) = (k = 2) from propext (nI_eq (b := 2) (by omega) (by decide)), show (nI k = 3) = (k = 3) from propext (nI_eq (b := 3) (by omega) (by decide))]
  simp only [fX_btw, bnp_ok, if_pos (btw_01 _ _ _)]
  by_cases k2 : k = 2
  · rw [if_pos k2, if_pos k2]
    exact congrArg some (btw_nat (a := 1) (b := 9) hv (by decide) (by decide))
  · rw [if_neg k2, if_neg k2]
    by_cases k3 : k = 3
    · rw [if_pos k3, if_pos k3]
      have := btw_nat (a := 0) (b := 9) hv (by decide) (by decide)
      simp only [Nat.zero_le, true_and] at this
      exact congrArg some this
    · rw [if_neg k3, if_neg k3]
      exact congrArg some (btw_nat (a := 2) (b := 20) hv (by decide) (by decide))
theorem X_take {σ : PS} {S : Mem} {N k v p : Nat} (h : XP σ S) (hB : mayB k σ = true) (h7 : (S 4).1 7 = nI v) : ∃ S', f4_take N (nI k) S = some ((), S') ∧ (∀ T : Mem, (T 4).1 2 = nI (cnt σ + 1) → (∀ j, j = 3 ∨ j = 4 → (T 4).1 j = (S' 4).1 j) → T 5 = S' 5 → T 7 = S' 7 → XP (takeP k v p σ) T) ∧ (S' 4).1 6 = (S 4).1 6 ∧ (S' 4).1 2 = (S 4).1 2 ∧ ∀ a, a ≠ 4 → a ≠ 5 → a ≠ 7 → S' a = S a := by
  have hc := takeP_cnt (v := v) (p := p) hB
  obtain ⟨h1, h2, h3, h4, h5, h6, h8⟩ := h
  unfold f4_take
  rcases mayB_k hB with ⟨rfl, hT⟩ | ⟨rfl, hT⟩ | ⟨rfl, hT⟩
  · refine ⟨wr (wr S 7 σ.2.1.1 (nI v)) 5 2 (nI (σ.2.1.1 + 1)), ?_, fun T t1 t2 t3 t4 => ?_, by rw [wr_ne _ _ _ _ (by decide), wr_ne _ _ _ _ (by decide)], by rw [wr_ne _ _ _ _ (by decide), wr_ne _ _ _ _ (by decide)], fun a a4 a5 a7 => by rw [wr_ne _ _ _ _ a5, wr_ne _ _ _ _ a7]⟩
    · unfold f6_addThing_5
      have e : ¬ (3 : Int32) ≤ nI σ.2.1.1 := nI_ge (b := 3) hT (by decide)
      rw [if_pos (show nI 2 = 2 from rfl), h7, h1, if_neg e, f5_put_in hT (by decide), bnd_ok, lt_ok, wr_ne _ _ _ _ (by decide), h1, nI_1, bnd_ok]
    · refine ⟨?_, fun i hi => ?_, ?_, ?_, ?_, ?_, ?_⟩
      · rw [t3]; exact wr_val _ _ _ _
      · have hi : i < σ.2.1.1 + 1 := hi
        rw [t4, wr_ne _ _ _ _ (by decide)]
        show _ = nI (if i = σ.2.1.1 then v else σ.2.1.2 i)
        by_cases e : i = σ.2.1.1
        · rw [if_pos e, e]; exact wr_val _ _ _ _
        · rw [if_neg e, wr_oth e]; exact h2 i (by omega)
      · rw [t3, wr_oth (by decide), wr_ne _ _ _ _ (by decide)]; exact h3
      · rw [t3, wr_oth (by decide), wr_ne _ _ _ _ (by decide)]; exact h4
      · rw [t2 3 (Or.inl rfl), wr_ne _ _ _ _ (by decide), wr_ne _ _ _ _ (by decide)]; exact h5
      · rw [t2 4 (Or.inr rfl), wr_ne _ _ _ _ (by decide), wr_ne _ _ _ _ (by decide)]; exact h6
      · rw [hc]; exact t1
  · refine ⟨wr (wr S 5 3 (nI v)) 4 3 1, ?_, fun T t1 t2 t3 t4 => ?_, by rw [wr_oth (by decide), wr_ne _ _ _ _ (by decide)], by rw [wr_oth (by decide), wr_ne _ _ _ _ (by decide)], fun a a4 a5 a7 => by rw [wr_ne _ _ _ _ a4, wr_ne _ _ _ _ a5]⟩
    · unfold f6_setOwn_5
      rw [if_neg (show ¬ nI 3 = 2 by decide), if_pos (show nI 3 = 3 from rfl), h7, lt_ok, bnd_ok, lt_ok]
    · refine ⟨?_, fun i hi => ?_, ?_, ?_, ?_, ?_, ?_⟩
      · rw [t3, wr_ne _ _ _ _ (by decide), wr_oth (by decide)]; exact h1
      · rw [t4, wr_ne _ _ _ _ (by decide), wr_ne _ _ _ _ (by decide)]; exact h2 i hi
      · rw [t3, wr_ne _ _ _ _ (by decide)]; exact wr_val _ _ _ _
      · rw [t3, wr_ne _ _ _ _ (by decide), wr_oth (by decide)]; exact h4
      · rw [t2 3 (Or.inl rfl)]; exact wr_val _ _ _ _
      · rw [t2 4 (Or.inr rfl), wr_oth (by decide), wr_ne _ _ _ _ (by decide)]; exact h6
      · rw [hc]; exact t1
  · refine ⟨wr (wr S 5 4 (nI v)) 4 4 1, ?_, fun T t1 t2 t3 t4 => ?_, by rw [wr_oth (by decide), wr_ne _ _ _ _ (by decide)], by rw [wr_oth (by decide), wr_ne _ _ _ _ (by decide)], fun a a4 a5 a7 => by rw [wr_ne _ _ _ _ a4, wr_ne _ _ _ _ a5]⟩
    · unfold f6_setFigures_5
      rw [if_neg (show ¬ nI 4 = 2 by decide), if_neg (show ¬ nI 4 = 3 by decide), h7, lt_ok, bnd_ok, lt_ok]
    · refine ⟨?_, fun i hi => ?_, ?_, ?_, ?_, ?_, ?_⟩
      · rw [t3, wr_ne _ _ _ _ (by decide), wr_oth (by decide)]; exact h1
      · rw [t4, wr_ne _ _ _ _ (by decide), wr_ne _ _ _ _ (by decide)]; exact h2 i hi
      · rw [t3, wr_ne _ _ _ _ (by decide), wr_oth (by decide)]; exact h3
      · rw [t3, wr_ne _ _ _ _ (by decide)]; exact wr_val _ _ _ _
      · rw [t2 3 (Or.inl rfl), wr_oth (by decide), wr_ne _ _ _ _ (by decide)]; exact h5
      · rw [t2 4 (Or.inr rfl)]; exact wr_val _ _ _ _
      · rw [hc]; exact t1
theorem kW_lt (B : Nat → Nat) (n q : Nat) : kW B n q < 7 := by
  unfold kW
  split
  · decide
  · split
    · decide
    · split <;> decide
theorem kD_lt (B : Nat → Nat) (n q : Nat) : kD B n q < 7 := by
  unfold kD
  split <;> decide
theorem tK_lt (B : Nat → Nat) (n p : Nat) : tK B n p < 7 := by
  unfold tK
  split
  · decide
  · split
    · exact kW_lt _ _ _
    · split
      · exact kD_lt _ _ _
      · split <;> decide
theorem tV_lt {B : Nat → Nat} {n p : Nat} (hB : GTx n B) (hp : p ≤ n) (h : tK B n p = 5) : tV B n p < 2 ^ 31 := by
  have hs := tS_le (B := B) hp
  unfold tK at h
  by_cases h0 : n ≤ tS B n p
  · rw [if_pos h0] at h; cases h
  · have b0 := hB.2 (tS B n p) (by omega)
    unfold tV vD
    split
    · omega
    · rename_i hz
      by_cases h1 : tS B n p + 1 < n
      · have b1 := hB.2 (tS B n p + 1) h1
        omega
      · rw [if_neg h0] at h
        by_cases h2 : pL (B (tS B n p)) = true
        · rw [if_pos h2] at h
          unfold kW at h
          revert h
          split
          · intro h; cases h
          · split
            · intro h; cases h
            · split <;> intro h <;> cases h
        · rw [if_neg h2] at h
          by_cases h3 : pD (B (tS B n p)) = true
          · have := sc_step (P := pD) (B := B) (n := n) (q := tS B n p) (by omega) h3
            have := sc_le (P := pD) (B := B) (n := n) (p := tS B n p) (by omega)
            omega
          · rw [if_neg h3] at h
            revert h
            split <;> intro h <;> cases h
