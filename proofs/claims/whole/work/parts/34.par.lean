theorem lp_S {σ ρ : Type} {f : σ → Option (σ ⊕ ρ)} {N : Nat} {s t : σ} (h : f s = some (.inl t)) : lp (N + 1) f s = lp N f t := by
  rw [lp, h]
theorem lp_E {σ ρ : Type} {f : σ → Option (σ ⊕ ρ)} {N : Nat} {s : σ} {r : ρ} (h : f s = some (.inr r)) : lp (N + 1) f s = some r := by
  rw [lp, h]
def FrX (S S' : Mem) : Prop := ∀ a, a ≠ 4 → a ≠ 5 → a ≠ 7 → S' a = S a
theorem FrX_XTx {n : Nat} {B : Nat → Nat} {S S' : Mem} (h : XTx n B S) (f : FrX S S') : XTx n B S' := XTx_eq h (f 1 (by decide) (by decide) (by decide)) (f 3 (by decide) (by decide) (by decide))
theorem FrX_4 {S S' : Mem} (h : ∀ a, a ≠ 4 → S' a = S a) : FrX S S' := fun a h4 _ _ => h a h4
theorem FrX_tr {S S' S'' : Mem} (h1 : FrX S S') (h2 : FrX S' S'') : FrX S S'' := fun a x y z => (h2 a x y z).trans (h1 a x y z)
theorem bI_0 {b : Bool} : (bI b = 0) = (b = false) := by cases b <;> decide
def Xr (B : Nat → Nat) (n : Nat) (σ : PS) (i : Nat) (S' : Mem) : (Int32 × Mem) ⊕ ((Int32 × Mem) ⊕ Mem) → Prop := fun r =>
  match pst B n σ with
  | .inl τ => r = .inl (nI (i + 1), S') ∧ XP τ S' ∧ (S' 4).1 6 = nI τ.1
  | .inr none => r = .inr (.inl (-1, S')) ∧ XP σ S'
  | .inr (some f) => r = .inr (.inl (nI f, S'))
theorem X_step {n : Nat} {B : Nat → Nat} {S : Mem} {N i : Nat} {σ : PS} (h : XTx n B S) (hB : GTx n B) (hG : GP n σ) (hX : XP σ S) (h6 : (S 4).1 6 = nI σ.1) (hi : i ≤ 200) (hN : 200 < N) : ∃ r S', f4_read_L6 N (nI i) S = some r ∧ Xr B n σ i S' r ∧ FrX S S' := by
  have hp := hG.1
  have e200 : ¬ (200 : Int32) < nI i := nI_nlt (a := 200) hi (by decide)
  obtain ⟨S1, a1, a5, a6, a7, a8, a9⟩ := X_token h hB hp hN h6
  have X1 := XP_tok hX a8 a9
  have F1 := FrX_4 a9
  have k1 := tK_lt B n σ.1
  unfold f4_read_L6 Xr pst
  rw [if_neg e200, a1, bnd_ok]
  by_cases h0 : tK B n σ.1 = 0
  · simp only [if_pos h0]
    exact ⟨_, S1, by rw [if_pos (show nI (tK B n σ.1) = 0 by rw [h0]; rfl)], ⟨rfl, X1⟩, F1⟩
  · simp only [if_neg h0]
    rw [if_neg (show ¬ nI (tK B n σ.1) = 0 from ne_nI (b := 0) (by omega) (by decide) h0), X_mayB X1 hG.2.1 (by omega), bnp_ok]
    by_cases h1 : mayB (tK B n σ.1) σ = false
    · simp only [if_pos h1]
      exact ⟨_, S1, by rw [if_pos (bI_0.mpr h1)], by rw [a5], F1⟩
    · simp only [if_neg h1]
      have hB1 := eq_true_of_ne_false h1
      have hp1 := tk_le (B := B) hp
      rw [if_neg (fun z => h1 (bI_0.mp z))]
      obtain ⟨S2, b1, b5, b6, b7, b8, b9⟩ := X_token (FrX_XTx h F1) hB hp1 hN (a6 h0)
      have X2 := XP_tok X1 b8 b9
      have F2 := FrX_tr F1 (FrX_4 b9)
      have k2 := tK_lt B n (tE B n σ.1)
      rw [b1, bnd_ok]
      by_cases h2 : tK B n (tE B n σ.1) = 5
      · rw [if_pos (show nI (tK B n (tE B n σ.1)) = 5 by rw [h2]; rfl), X_mayT (by omega) (tV_lt hB hp1 h2) (b7 h2), bnp_ok]
        by_cases h3 : mayT (tK B n σ.1) (tV B n (tE B n σ.1)) = false
        · simp only [if_pos (Or.inr h3 : tK B n (tE B n σ.1) ≠ 5 ∨ _)]
          exact ⟨_, S2, by rw [if_pos (bI_0.mpr h3)], by rw [b5], F2⟩
        · simp only [if_neg (show ¬ (tK B n (tE B n σ.1) ≠ 5 ∨ mayT (tK B n σ.1) (tV B n (tE B n σ.1)) = false) from fun z => z.elim (fun z => z h2) h3)]
          rw [if_neg (fun z => h3 (bI_0.mp z))]
          obtain ⟨S3, c1, c2, c3, c4, c5⟩ := X_take (N := N) (p := tE B n (tE B n (tE B n σ.1))) X2 hB1 (b7 h2)
          have F3 : FrX S S3 := FrX_tr F2 c5
          have hp2 := tk_le (B := B) hp1
          rw [c1, bnd_ok]
          obtain ⟨S4, d1, d5, d6, d7, d8, d9⟩ := X_token (FrX_XTx h F3) hB hp2 hN (c3.trans (b6 (by omega)))
          have F4 := FrX_tr F3 (FrX_4 d9)
          have k3 := tK_lt B n (tE B n (tE B n σ.1))
          rw [d1, bnd_ok]
          by_cases h4 : tK B n (tE B n (tE B n σ.1)) = 6
          · simp only [if_neg (show ¬ (tK B n (tE B n (tE B n σ.1)) ≠ 6) from fun z => z h4)]
            refine ⟨_, wr S4 4 2 (nI (cnt σ + 1)), by rw [if_pos (show nI (tK B n (tE B n (tE B n σ.1))) = 6 by rw [h4]; rfl), lt_ok, lt_ok, d8 2 (by decide), c4, X2.2.2.2.2.2.2, nI_1, nI_1], ⟨rfl, c2 _ (wr_val _ _ _ _) (fun j hj => ?_) ?_ ?_, ?_⟩, fun a x y z => by rw [wr_ne _ _ _ _ x]; exact F4 a x y z⟩
            · rw [wr_oth (by omega)]; exact d8 j (by omega)
            · rw [wr_ne _ _ _ _ (by decide)]; exact d9 5 (by decide)
            · rw [wr_ne _ _ _ _ (by decide)]; exact d9 7 (by decide)
            · rw [wr_oth (by decide), d6 (by omega)]
              unfold takeP
              split
              · rfl
              · split <;> rfl
          · simp only [if_pos (show tK B n (tE B n (tE B n σ.1)) ≠ 6 from h4)]
            exact ⟨_, S4, by rw [if_neg (show ¬ nI (tK B n (tE B n (tE B n σ.1))) = 6 from ne_nI (b := 6) (by omega) (by decide) h4)], by rw [d5], F4⟩
      · simp only [if_pos (Or.inl h2 : tK B n (tE B n σ.1) ≠ 5 ∨ _)]
        exact ⟨_, S2, by rw [if_neg (show ¬ nI (tK B n (tE B n σ.1)) = 5 from ne_nI (b := 5) (by omega) (by decide) h2)], by rw [b5], F2⟩
def fin (B : Nat → Nat) (n : Nat) : Nat → PS → Option Nat × PS
  | 0, σ => (none, σ)
  | k + 1, σ => match pst B n σ with
    | .inl τ => fin B n k τ
    | .inr r => (r, σ)
theorem fin_G {B : Nat → Nat} {n : Nat} : ∀ k σ, GP n σ → GP n (fin B n k σ).2 := by
  intro k
  induction k with
  | zero => intro σ h; exact h
  | succ k ih =>
    intro σ h
    rw [fin]
    split
    · rename_i τ e
      exact ih τ (pst_ok h e).1
    · exact h
theorem X_loop {n : Nat} {B : Nat → Nat} {N : Nat} (hB : GTx n B) (hN : 200 < N) : ∀ k M σ S i, XTx n B S → GP n σ → XP σ S → (S 4).1 6 = nI σ.1 → 5 < k + cnt σ → i ≤ cnt σ → k < M → ∃ r S', lp M (fun s : Int32 × Mem => f4_read_L6 N s.1 s.2) (nI i, S) = some (.inl (r, S')) ∧ FrX S S' ∧ (match (fin B n k σ).1 with | none => r = -1 ∧ XP (fin B n k σ).2 S' | some f => r = nI f) := by
  intro k
  induction k with
  | zero => intro M σ S i h hG _ _ hc; have := cnt_le hG; omega
  | succ k ih =>
    intro M σ S i h hG hX h6 hc hi hM
    obtain ⟨M, rfl⟩ : ∃ M', M = M' + 1 := ⟨M - 1, by omega⟩
    have hc5 := cnt_le hG
    obtain ⟨r, S', a1, a2, a3⟩ := X_step (i := i) (N := N) h hB hG hX h6 (by omega) hN
    rw [fin]
    unfold Xr at a2
    rcases hs : pst B n σ with τ | r0
    · simp only [hs] at a2 ⊢
      obtain ⟨rfl, b2, b3⟩ := a2
      obtain ⟨g1, g2⟩ := pst_ok hG hs
      obtain ⟨r, S2, c1, c2, c3⟩ := ih M τ S' (i + 1) (FrX_XTx h a3) g1 b2 b3 (by omega) (by omega) (by omega)
      exact ⟨r, S2, by rw [lp_S (by exact a1)]; exact c1, FrX_tr a3 c2, c3⟩
    · rcases r0 with _ | f
      · simp only [hs] at a2 ⊢
        obtain ⟨rfl, b2⟩ := a2
        exact ⟨_, S', lp_E a1, a3, rfl, b2⟩
      · simp only [hs] at a2 ⊢
        subst a2
        exact ⟨_, S', lp_E a1, a3, rfl⟩
