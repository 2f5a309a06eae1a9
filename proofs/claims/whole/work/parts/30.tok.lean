theorem wr_val (S : Mem) (k j : Nat) (x : Int32) : ((wr S k j x) k).1 j = x := by
  rw [wr_at]
  exact if_pos rfl
theorem wr_oth {S : Mem} {k j i : Nat} {x : Int32} (h : i ≠ j) : ((wr S k j x) k).1 i = (S k).1 i := by
  rw [wr_at]
  exact if_neg h
def wq (B : Nat → Nat) (w q e : Nat) : Bool := decide (e - q = strLen w) && (List.range (strLen w)).all (fun k => decide (B (q + k) = wB w k))
theorem wq_iff {B : Nat → Nat} {w q e : Nat} : wq B w q e = true ↔ isW B w q e := by
  unfold wq isW
  rw [Bool.and_eq_true, decide_eq_true_eq, List.all_eq_true]
  constructor
  · rintro ⟨h1, h2⟩
    exact ⟨h1, fun k hk => of_decide_eq_true (h2 k (List.mem_range.mpr hk))⟩
  · rintro ⟨h1, h2⟩
    exact ⟨h1, fun k hk => decide_eq_true (h2 k (List.mem_range.mp hk))⟩
/-- the token from p on: 0 END, 1 FAULTY, 2 thing, 3 own, 4 figures, 5 NUMBER, 6 STOP; where it starts, where it ends, its value -/
def tS (B : Nat → Nat) (n p : Nat) : Nat := sc pB B n p
def kW (B : Nat → Nat) (n q : Nat) : Nat := if wq B 0 q (sc pL B n q) = true then 2 else if wq B 1 q (sc pL B n q) = true then 3 else if wq B 2 q (sc pL B n q) = true then 4 else 1
def kD (B : Nat → Nat) (n q : Nat) : Nat := if sc pD B n q = q + 1 ∨ (sc pD B n q = q + 2 ∧ B q ≠ 48) then 5 else 1
def tK (B : Nat → Nat) (n p : Nat) : Nat := if n ≤ tS B n p then 0 else if pL (B (tS B n p)) = true then kW B n (tS B n p) else if pD (B (tS B n p)) = true then kD B n (tS B n p) else if B (tS B n p) = 59 then 6 else 1
def tE (B : Nat → Nat) (n p : Nat) : Nat := if n ≤ tS B n p then tS B n p else if pL (B (tS B n p)) = true then sc pL B n (tS B n p) else if pD (B (tS B n p)) = true then sc pD B n (tS B n p) else tS B n p + 1
def vD (B : Nat → Nat) (n q : Nat) : Nat := if sc pD B n q = q + 1 then B q - 48 else 10 * (B q - 48) + (B (q + 1) - 48)
def tV (B : Nat → Nat) (n p : Nat) : Nat := vD B n (tS B n p)
theorem tS_le {B : Nat → Nat} {n p : Nat} (h : p ≤ n) : p ≤ tS B n p ∧ tS B n p ≤ n := sc_le h
theorem tE_le {B : Nat → Nat} {n p : Nat} (h : p ≤ n) : tS B n p ≤ tE B n p ∧ tE B n p ≤ n := by
  have h1 := tS_le (B := B) h
  unfold tE
  by_cases h2 : n ≤ tS B n p
  · rw [if_pos h2]; omega
  · rw [if_neg h2]
    split
    · exact sc_le h1.2
    · split
      · exact sc_le h1.2
      · omega
theorem sc_step {P : Nat → Bool} {B : Nat → Nat} {n q : Nat} (h : q < n) (hp : P (B q) = true) : q < sc P B n q := by
  have h1 := sc_le (P := P) (B := B) (n := n) (p := q) (by omega)
  rcases Nat.lt_or_ge q (sc P B n q) with h2 | h2
  · exact h2
  · have e : sc P B n q = q := by omega
    have h3 := sc_out (P := P) (B := B) (n := n) (p := q) (by omega) (by omega)
    rw [e, hp] at h3
    cases h3
theorem X_word_tok {n : Nat} {B : Nat → Nat} {S : Mem} {N q : Nat} (h : XTx n B S) (hB : GTx n B) (hq : q ≤ n) (hN : 8 < N) (h5 : (S 4).1 5 = nI q) (h6 : (S 4).1 6 = nI (sc pL B n q)) : f4_wordToken N S = some (nI (kW B n q)) := by
  have hs := sc_le (P := pL) (B := B) hq
  unfold f4_wordToken kW
  rw [h5, h6]
  rcases X_has h hB hs.1 hs.2 (show 0 < 3 by decide) hN with ⟨a1, a2⟩ | ⟨a1, a2⟩
  · rw [a2, bnp_ok, if_pos (wq_iff.mpr a1), if_neg (by decide)]
    rfl
  · rw [a2, bnp_ok, if_neg (fun z => a1 (wq_iff.mp z)), if_pos rfl]
    rcases X_has h hB hs.1 hs.2 (show 1 < 3 by decide) hN with ⟨b1, b2⟩ | ⟨b1, b2⟩
    · rw [b2, bnp_ok, if_pos (wq_iff.mpr b1), if_neg (by decide)]
      rfl
    · rw [b2, bnp_ok, if_neg (fun z => b1 (wq_iff.mp z)), if_pos rfl]
      rcases X_has h hB hs.1 hs.2 (show 2 < 3 by decide) hN with ⟨c1, c2⟩ | ⟨c1, c2⟩
      · rw [c2, bnp_ok, if_pos (wq_iff.mpr c1), if_neg (by decide)]
        rfl
      · rw [c2, bnp_ok, if_neg (fun z => c1 (wq_iff.mp z)), if_pos rfl]
        rfl
theorem XTx_4 {n : Nat} {B : Nat → Nat} {S : Mem} {j : Nat} {x : Int32} (h : XTx n B S) : XTx n B (wr S 4 j x) := XTx_eq h (wr_ne _ _ _ _ (by decide)) (wr_ne _ _ _ _ (by decide))
theorem X_num_tok {n : Nat} {B : Nat → Nat} {S : Mem} {N q : Nat} (h : XTx n B S) (hB : GTx n B) (hq : q < n) (hd : pD (B q) = true) (h5 : (S 4).1 5 = nI q) (h6 : (S 4).1 6 = nI (sc pD B n q)) : ∃ S', f4_numberToken N S = some (nI (kD B n q), S') ∧ (kD B n q = 5 → (S' 4).1 7 = nI (vD B n q)) ∧ (∀ j, j ≠ 7 → (S' 4).1 j = (S 4).1 j) ∧ ∀ a, a ≠ 4 → S' a = S a := by
  have hn := hB.1
  have hs := sc_le (P := pD) (B := B) (Nat.le_of_lt hq)
  have hs1 := sc_step (P := pD) hq hd
  have d1 : 48 ≤ B q ∧ B q ≤ 57 := of_decide_eq_true hd
  unfold f4_numberToken kD vD
  rw [h5, h6, X_byte h hn hq, bnp_ok, lt_ok, pk_sub hs.1]
  have e48 : nI (B q) - 48 = nI (B q - 48) := pk_sub (b := 48) d1.1
  rw [e48]
  by_cases k1 : sc pD B n q = q + 1
  · refine ⟨wr S 4 7 (nI (B q - 48)), ?_, fun _ => ?_, fun j hj => ?_, fun a ha => wr_ne _ _ _ _ ha⟩
    · rw [if_pos (show nI (sc pD B n q - q) = 1 by rw [k1, show q + 1 - q = 1 by omega]; rfl), lt_ok, if_pos (Or.inl k1)]
      rfl
    · rw [if_pos k1]; exact wr_val _ _ _ _
    · exact wr_oth hj
  · have n1 : ¬ nI (sc pD B n q - q) = 1 := ne_nI (b := 1) (by omega) (by decide) (by omega)
    rw [if_neg n1]
    by_cases k2 : sc pD B n q = q + 2
    · have n2 : ¬ (2 : Int32) < nI (sc pD B n q - q) := nI_nlt (b := sc pD B n q - q) (a := 2) (by omega) (by decide) |> fun z => by
        rw [k2, show q + 2 - q = 2 by omega]; decide
      rw [if_neg n2]
      by_cases k3 : B q = 48
      · refine ⟨S, ?_, fun z => ?_, fun _ _ => rfl, fun _ _ => rfl⟩
        · rw [if_pos (show nI (B q - 48) = 0 by rw [k3]; rfl), if_neg (fun z => z.elim k1 (fun z => z.2 k3))]
          rfl
        · rw [if_neg (fun z => z.elim k1 (fun z => z.2 k3))] at z
          cases z
      · have hj : q + 1 < n := by omega
        have e2 := sc_in (P := pD) (B := B) (n := n) (p := q) (j := q + 1) (by omega) (by omega)
        have d2 : 48 ≤ B (q + 1) ∧ B (q + 1) ≤ 57 := of_decide_eq_true e2
        have ev : nI (B q - 48) * 10 + nI (B (q + 1)) - 48 = nI (10 * (B q - 48) + (B (q + 1) - 48)) := by
          rw [show (10 : Int32) = nI 10 from rfl, pk_mul, nI_add, show (48 : Int32) = nI 48 from rfl, pk_sub (by omega)]
          congr 1
          omega
        refine ⟨wr S 4 7 (nI (10 * (B q - 48) + (B (q + 1) - 48))), ?_, fun _ => ?_, fun j hj => ?_, fun a ha => wr_ne _ _ _ _ ha⟩
        · rw [if_neg (show ¬ nI (B q - 48) = 0 from ne_nI (b := 0) (by omega) (by decide) (by omega)), nI_1, X_byte h hn hj, bnp_ok, lt_ok, ev, if_pos (Or.inr ⟨k2, k3⟩)]
          rfl
        · rw [if_neg k1]; exact wr_val _ _ _ _
        · exact wr_oth hj
    · refine ⟨S, ?_, fun z => ?_, fun _ _ => rfl, fun _ _ => rfl⟩
      · rw [if_pos (show (2 : Int32) < nI (sc pD B n q - q) from nI_lt (a := 2) (by omega) (by omega)), if_neg (fun z => z.elim k1 (fun z => k2 z.1))]
        rfl
      · rw [if_neg (fun z => z.elim k1 (fun z => k2 z.1))] at z
        cases z
theorem X_token {n : Nat} {B : Nat → Nat} {S : Mem} {N p : Nat} (h : XTx n B S) (hB : GTx n B) (hp : p ≤ n) (hN : 200 < N) (h6 : (S 4).1 6 = nI p) : ∃ S', f4_token N S = some (nI (tK B n p), S') ∧ (S' 4).1 5 = nI (tS B n p) ∧ (tK B n p ≠ 0 → (S' 4).1 6 = nI (tE B n p)) ∧ (tK B n p = 5 → (S' 4).1 7 = nI (tV B n p)) ∧ (∀ j, j < 5 → (S' 4).1 j = (S 4).1 j) ∧ ∀ a, a ≠ 4 → S' a = S a := by
  have hn := hB.1
  have hs := tS_le (B := B) hp
  have hbl : f4_endOfBlanks N (nI p) S = some (nI (tS B n p)) := X_blanks h hB hp hN
  unfold f4_token tK tE tV
  rw [h6, hbl, bnp_ok, lt_ok]
  have e5 : ((wr S 4 5 (nI (tS B n p))) 4).1 5 = nI (tS B n p) := wr_val _ _ _ _
  have hk := XTx_4 (j := 5) (x := nI (tS B n p)) h
  show ∃ S', (bnp (f7_byteAt N (((wr S 4 5 (nI (tS B n p))) 4).1 5) (wr S 4 5 (nI (tS B n p)))) fun r3 => _) = _ ∧ _
  rw [e5]
  by_cases h0 : n ≤ tS B n p
  · rw [X_byte_end hk hn h0 (by omega), bnp_ok, if_neg (by decide)]
    refine ⟨wr S 4 5 (nI (tS B n p)), ?_, e5, fun z => ?_, fun z => ?_, fun j hj => ?_, fun a ha => wr_ne _ _ _ _ ha⟩
    · rw [if_pos h0]
      rfl
    · rw [if_pos h0] at z; exact absurd rfl z
    · rw [if_pos h0] at z; cases z
    · exact wr_oth (by omega)
  · have hq : tS B n p < n := by omega
    have hb := hB.2 _ hq
    rw [X_byte hk hn hq, bnp_ok, if_pos (nI_pos' (by omega))]
    unfold f4_isLetter f4_isDigit
    rw [fX_btw, bnp_ok, if_pos (btw_01 _ _ _), bnp_ok, btw_L hb]
    simp only [if_neg h0]
    by_cases hL : pL (B (tS B n p)) = true
    · simp only [if_pos hL]
      rw [if_neg (by decide), X_word hk hB (by omega) hN, bnp_ok, lt_ok]
      have e5' : ((wr (wr S 4 5 (nI (tS B n p))) 4 6 (nI (sc pL B n (tS B n p)))) 4).1 5 = nI (tS B n p) := (wr_oth (by decide)).trans e5
      have e6' : ((wr (wr S 4 5 (nI (tS B n p))) 4 6 (nI (sc pL B n (tS B n p)))) 4).1 6 = nI (sc pL B n (tS B n p)) := wr_val _ _ _ _
      have hw := X_word_tok (N := N) (XTx_4 (j := 6) (x := nI (sc pL B n (tS B n p))) hk) hB (show tS B n p ≤ n by omega) (by omega) e5' e6'
      refine ⟨_, by rw [hw, bnp_ok], e5', fun _ => e6', fun z => ?_, fun j hj => ?_, fun a ha => by rw [wr_ne _ _ _ _ ha, wr_ne _ _ _ _ ha]⟩
      · exfalso
        unfold kW at z
        revert z
        split
        · decide
        · split
          · decide
          · split <;> decide
      · rw [wr_oth (by omega), wr_oth (by omega)]
    · simp only [if_neg hL]
      rw [if_pos trivial, fX_btw, bnp_ok, if_pos (btw_01 _ _ _), bnp_ok, btw_D hb]
      by_cases hD : pD (B (tS B n p)) = true
      · simp only [if_pos hD]
        rw [if_neg (by decide), X_digits hk hB (by omega) hN, bnp_ok, lt_ok]
        have e5' : ((wr (wr S 4 5 (nI (tS B n p))) 4 6 (nI (sc pD B n (tS B n p)))) 4).1 5 = nI (tS B n p) := (wr_oth (by decide)).trans e5
        have e6' : ((wr (wr S 4 5 (nI (tS B n p))) 4 6 (nI (sc pD B n (tS B n p)))) 4).1 6 = nI (sc pD B n (tS B n p)) := wr_val _ _ _ _
        obtain ⟨S', a1, a2, a3, a4⟩ := X_num_tok (N := N) (XTx_4 (j := 6) (x := nI (sc pD B n (tS B n p))) hk) hB hq hD e5' e6'
        refine ⟨S', by rw [a1, bnd_ok], by rw [a3 5 (by decide)]; exact e5', fun _ => by rw [a3 6 (by decide)]; exact e6', a2, fun j hj => ?_, fun a ha => by rw [a4 a ha, wr_ne _ _ _ _ ha, wr_ne _ _ _ _ ha]⟩
        rw [a3 j (by omega), wr_oth (by omega), wr_oth (by omega)]
      · simp only [if_neg hD]
        rw [if_pos trivial, lt_ok, nI_1]
        have fin : ∀ r : Nat, r ≠ 5 → ∃ S', (some (nI r, wr (wr S 4 5 (nI (tS B n p))) 4 6 (nI (tS B n p + 1))) : Option (Int32 × Mem)) = some (nI r, S') ∧ (S' 4).1 5 = nI (tS B n p) ∧ (r ≠ 0 → (S' 4).1 6 = nI (tS B n p + 1)) ∧ (r = 5 → (S' 4).1 7 = nI (vD B n (tS B n p))) ∧ (∀ j, j < 5 → (S' 4).1 j = (S 4).1 j) ∧ ∀ a, a ≠ 4 → S' a = S a := by
          intro r hr
          refine ⟨_, rfl, ?_, fun _ => ?_, fun z => absurd z hr, fun j hj => ?_, fun a ha => by rw [wr_ne _ _ _ _ ha, wr_ne _ _ _ _ ha]⟩
          · exact (wr_oth (by decide)).trans e5
          · exact wr_val _ _ _ _
          · rw [wr_oth (by omega), wr_oth (by omega)]
        by_cases h59 : B (tS B n p) = 59
        · simp only [if_pos h59, if_pos (show nI (B (tS B n p)) = 59 by rw [h59]; rfl)]
          exact fin 6 (by decide)
        · simp only [if_neg h59, if_neg (show ¬ nI (B (tS B n p)) = 59 from ne_nI (b := 59) (by omega) (by decide) h59)]
          exact fin 1 (by decide)
