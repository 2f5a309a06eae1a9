/-! THE CLASS LEARNS -/
def XSt (T F : Nat) (b : Bk) (S : Mem) : Prop := (S 10).1 2 = nI T ∧ (S 10).1 4 = nI F ∧ XBk b S 15
theorem XA_XSt {a : Ab} {S : Mem} (h : XA a S) : XSt a.2.1.1 a.2.1.2.2.2 a.2.2.1 S := ⟨h.2.1.1, h.2.1.2.2.2, h.2.2.1⟩
/-- cells that learning and planning change -/
def FL (S S' : Mem) : Prop := ∀ q, q ∉ [39, 41, 43, 45, 47, 49, 52, 54, 56] → S' q = S q
theorem FL_refl (S : Mem) : FL S S := fun _ _ => rfl
theorem FL_tr {S S' S'' : Mem} (h1 : FL S S') (h2 : FL S' S'') : FL S S'' := fun q hq => (h2 q hq).trans (h1 q hq)
theorem FL_one {S S' : Mem} {k : Nat} (h : ∀ q, q ≠ k → S' q = S q) (hk : k ∈ [39, 41, 43, 45, 47, 49, 52, 54, 56]) : FL S S' := fun q hq => h q (fun z => hq (by rw [z]; exact hk))
theorem XSt_fl {T F : Nat} {b : Bk} {S S' : Mem} (h : XSt T F b S) (f : FL S S') : XSt T F b S' := by
  obtain ⟨h1, h2, h3⟩ := h
  exact ⟨by rw [f 10 (by decide)]; exact h1, by rw [f 10 (by decide)]; exact h2, XBk_eq h3 (f 15 (by decide)) (f 17 (by decide)) (f 19 (by decide)) (f 21 (by decide))⟩
theorem XA_fl {a : Ab} {S S' : Mem} (h : XA a S) (f : FL S S') : XA a S' := XA_eq h (fun q hq => f q (by revert q; decide))
theorem MA_fl {a : Ab} {S S' : Mem} (h : MA a S) (f : FL S S') : MA a S' := MA_keep h (fun q hq => f q (by simp only [List.mem_cons, List.not_mem_nil, or_false, not_or]; omega))
theorem X_left {T F : Nat} {b : Bk} {S : Mem} {N m : Nat} (h : XSt T F b S) (hG : GSt T F b) (hm : m < 2 ^ 31) : f6_leftOver_10 N (nI m) S = some (nI (m % F)) := by
  have hF := hG.2
  unfold f6_leftOver_10
  rw [h.2.1, if_pos (show (1 : Int32) ≤ nI F from nI_le (a := 1) (by omega) (by omega)), if_neg (show ¬ nI F = 0 from ne_nI (b := 0) (by omega) (by decide) (by omega)), pk_rem hm (by omega) (by omega)]
theorem X_line {T F : Nat} {b : Bk} {S : Mem} {N k : Nat} (h : XSt T F b S) (hG : GSt T F b) (hk : k < b.1) : f0_setOf_15 N (nI k) S = some (nI (b.2 k).1) ∧ f0_shownOf_15 N (nI k) S = some (nI (b.2 k).2.1) ∧ f0_laughOf_15 N (nI k) S = some (nI (b.2 k).2.2) := by
  have hb := hG.2.2.2.1
  obtain ⟨h1, h2, h3⟩ := h.2.2.2 k hk
  unfold f0_setOf_15 f0_shownOf_15 f0_laughOf_15
  rw [f5_get_in (by omega) (by decide), f5_get_in (by omega) (by decide), f5_get_in (by omega) (by decide), bnp_ok, bnp_ok, bnp_ok]
  exact ⟨congrArg some h1, congrArg some h2, congrArg some h3⟩
theorem mod_ne {F m : Nat} (hF : 2 ≤ F) : m % F ≠ (m + 1) % F := by
  rw [← Nat.mod_add_mod]
  have h := Nat.mod_lt m (show 0 < F by omega)
  generalize m % F = r at h ⊢
  by_cases e : r + 1 < F
  · rw [Nat.mod_eq_of_lt e]; omega
  · rw [show r + 1 = F by omega, Nat.mod_self]; omega
/-- what a line says of a load -/
def cv (F : Nat) (l : Nat × Nat × Nat) (k m : Nat) : Nat := (if lgl F l.2.1 l.2.2 m = 2 then 2 ^ k else 0) ||| (if l.2.2 = 2 ∧ lgl F l.2.1 l.2.2 m = 1 then 2 ^ (12 + k) else 0)
theorem or0I (a : Nat) : (0 : Int32) ||| nI a = nI a := by
  rw [show (0 : Int32) = nI 0 from rfl, fa_or, Nat.zero_or]
theorem X_codeOf {T F : Nat} {b : Bk} {S : Mem} {N k m : Nat} (h : XSt T F b S) (hG : GSt T F b) (hk : k < b.1) (hm : m < 1000) : f8_codeOf N (nI k) (nI m) S = some (nI (cv F (b.2 k) k m)) := by
  obtain ⟨l1, l2, l3⟩ := X_line (N := N) h hG hk
  have hb := hG.2.2.2.1
  have hF2 := hG.2.1
  have hF20 := hG.2.2.1
  obtain ⟨b1, b2, b3⟩ := hG.2.2.2.2 k hk
  have r1 := Nat.mod_lt m (show 0 < F by omega)
  have r2 := Nat.mod_lt (m + 1) (show 0 < F by omega)
  have r3 := mod_ne (m := m) hF2
  have hs1 : (1 : Int32) <<< (nI k &&& 31) = nI (2 ^ k) := shl_nI (by omega)
  have hs2 : (1 : Int32) <<< (((12 : Int32) + nI k) &&& 31) = nI (2 ^ (12 + k)) := by
    rw [show (12 : Int32) + nI k = nI (12 + k) from nI_add 12 k]
    exact shl_nI (by omega)
  unfold f8_codeOf f8_codeOf_b33 f8_codeOf_b61 f8_codeOf_b73 f8_codeOf_b82 f8_codeOf_b86 f8_codeOf_b87 f8_codeOf_b101
  rw [l3, bnp_ok, X_left h hG (by omega), bnp_ok, l2, bnp_ok, nI_1, X_left h hG (by omega), bnp_ok, bnp_ok, hs1, hs2]
  unfold cv lgl
  generalize m % F = r at *
  generalize (m + 1) % F = r' at *
  generalize (b.2 k).2.1 = w at *
  generalize (b.2 k).2.2 = u at *
  have q1 : (nI r = nI w) = (r = w) := propext (nI_eq (by omega) (by omega))
  have q2 : (nI r' = nI w) = (r' = w) := propext (nI_eq (by omega) (by omega))
  have n1 : ¬ (1 : Int32) = 0 := by decide
  have n0 : ¬ (0 : Int32) = 1 := by decide
  simp only [q1, q2]
  by_cases g1 : r = w
  · have g2 : ¬ r' = w := by omega
    rcases (show u = 0 ∨ u = 1 ∨ u = 2 by omega) with rfl | rfl | rfl <;>
      simp (decide := true) only [g1, g2, q1, q2, or0I, ite_self, if_true, if_false, bnp_ok, fa_or, Nat.or_zero, Nat.zero_or, and_true, and_false] <;> rfl
  · by_cases g2 : r' = w
    · rcases (show u = 0 ∨ u = 1 ∨ u = 2 by omega) with rfl | rfl | rfl <;>
        simp (decide := true) only [g1, g2, q1, q2, or0I, ite_self, if_true, if_false, bnp_ok, fa_or, Nat.or_zero, Nat.zero_or, and_true, and_false] <;> rfl
    · rcases (show u = 0 ∨ u = 1 ∨ u = 2 by omega) with rfl | rfl | rfl <;>
        simp (decide := true) only [g1, g2, q1, q2, or0I, ite_self, if_true, if_false, bnp_ok, fa_or, Nat.or_zero, Nat.zero_or, and_true, and_false] <;> rfl
