/-! TOKENS -/
def sc (P : Nat → Bool) (B : Nat → Nat) (n p : Nat) : Nat := p + fa_first (fun k => !(P (B (p + k)))) (n - p)
theorem sc_le {P : Nat → Bool} {B : Nat → Nat} {n p : Nat} (h : p ≤ n) : p ≤ sc P B n p ∧ sc P B n p ≤ n := by
  have := fa_first_le (fun k => !(P (B (p + k)))) (n - p)
  unfold sc; omega
theorem sc_in {P : Nat → Bool} {B : Nat → Nat} {n p j : Nat} (h1 : p ≤ j) (h2 : j < sc P B n p) : P (B j) = true := by
  have h := fa_first_no (fun k => !(P (B (p + k)))) (n - p) (j - p) (by unfold sc at h2; omega)
  rw [show p + (j - p) = j by omega] at h
  simpa using h
theorem sc_out {P : Nat → Bool} {B : Nat → Nat} {n p : Nat} (h : p ≤ n) (h2 : sc P B n p < n) : P (B (sc P B n p)) = false := by
  have h := fa_first_yes (fun k => !(P (B (p + k)))) (n - p) (by unfold sc at h2; omega)
  unfold sc
  simpa using h
def pB (c : Nat) : Bool := decide (c = 32)
def pL (c : Nat) : Bool := decide (97 ≤ c ∧ c ≤ 122)
def pD (c : Nat) : Bool := decide (48 ≤ c ∧ c ≤ 57)
theorem btw_nI {c a b : Nat} (hc : c < 2 ^ 31) (ha : a < 2 ^ 31) (hb : b < 2 ^ 31) : btw (nI c) (nI a) (nI b) = if a ≤ c ∧ c ≤ b then 1 else 0 := by
  unfold btw
  by_cases h1 : c < a
  · rw [if_pos (nI_lt h1 ha), if_neg (by omega)]
  · rw [if_neg (nI_nlt (by omega) hc)]
    by_cases h2 : b < c
    · rw [if_pos (nI_lt h2 hc), if_neg (by omega)]
    · rw [if_neg (nI_nlt (by omega) hb), if_pos (by omega)]
theorem btw_L {c : Nat} (hc : c < 256) : btw (nI c) 97 122 = if pL c = true then 1 else 0 := by
  have := btw_nI (c := c) (a := 97) (b := 122) (by omega) (by decide) (by decide)
  rw [show nI 97 = 97 from rfl, show nI 122 = 122 from rfl] at this
  rw [this]
  unfold pL
  by_cases h : 97 ≤ c ∧ c ≤ 122 <;> simp [h]
theorem btw_D {c : Nat} (hc : c < 256) : btw (nI c) 48 57 = if pD c = true then 1 else 0 := by
  have := btw_nI (c := c) (a := 48) (b := 57) (by omega) (by decide) (by decide)
  rw [show nI 48 = 48 from rfl, show nI 57 = 57 from rfl] at this
  rw [this]
  unfold pD
  by_cases h : 48 ≤ c ∧ c ≤ 57 <;> simp [h]
/-- the class reads a byte -/
theorem X_byte {n : Nat} {B : Nat → Nat} {S : Mem} {N j : Nat} (h : XTx n B S) (hn : n ≤ 200) (hj : j < n) : f7_byteAt N (nI j) S = some (nI (B j)) := by
  have := h.2 j hj
  unfold f7_byteAt
  rw [h.1, if_neg (nI_ge hj (by omega)), f5_get_in (by omega) (by decide), bnp_ok, this]
theorem X_byte_end {n : Nat} {B : Nat → Nat} {S : Mem} {N j : Nat} (h : XTx n B S) (hn : n ≤ 200) (hj : n ≤ j) (hj2 : j < 2 ^ 31) : f7_byteAt N (nI j) S = some (-1) := by
  unfold f7_byteAt
  rw [h.1, if_pos (nI_le hj hj2)]
/-- the model reads a byte -/
theorem M_here {n : Nat} {B : Nat → Nat} {S : Mem} {N j : Nat} (h : MTx n B S) (hB : GTx n B) (ha : (S 57).1 6 = nI j) (hj : j < n) : f10_here N S = some (nI (B j)) := by
  have hb := h.2 j hj
  have h2 := hB.2 j hj
  have hn := hB.1
  unfold f10_here
  rw [h.1, ha, if_neg (nI_ge hj (by omega))]
  simp (disch := omega) only [bnp_ok, bnd_ok, lt_ok, c0, c1, c2, c3, nI_clamp, nI_neg, nI_ltI, nI_leI, nI_eq, lt_t, lt_f, le_t, le_f, eq_t, eq_f, or_true, true_or, or_false, false_or, if_true, if_false, not_true, not_false_iff, z0, o0, o1, and_true, true_and, and_false, false_and, hb]
  rw [sc_k8 _ h2]
theorem M_here_end {n : Nat} {B : Nat → Nat} {S : Mem} {N j : Nat} (h : MTx n B S) (hB : GTx n B) (ha : (S 57).1 6 = nI j) (hj : n ≤ j) (hj2 : j < 2 ^ 31) : f10_here N S = some (-1) := by
  unfold f10_here
  rw [h.1, ha, if_pos (nI_le hj hj2)]
/-- scans of the class -/
theorem X_blanks {n : Nat} {B : Nat → Nat} {S : Mem} {N p : Nat} (h : XTx n B S) (hB : GTx n B) (hp : p ≤ n) (hN : 200 < N) : f4_endOfBlanks N (nI p) S = some (nI (sc pB B n p)) := by
  have hn := hB.1
  have hs := sc_le (P := pB) (B := B) hp
  unfold f4_endOfBlanks
  have k := lp_seq (f := fun s : Int32 => f4_endOfBlanks_L2 N s S) (fun i => nI (p + i)) (r := nI (sc pB B n p)) (N := N) (sc pB B n p - p) (fun i hi => ?_) ?_ (by omega)
  · rw [Nat.add_zero] at k
    rw [k, bnp_ok]
    rfl
  · have hj : p + i < n := by omega
    have e := sc_in (P := pB) (B := B) (n := n) (p := p) (j := p + i) (by omega) (by omega)
    have e2 : B (p + i) = 32 := of_decide_eq_true e
    unfold f4_endOfBlanks_L2 f7_length
    rw [bnp_ok, h.1, if_neg (nI_ge hj (by omega)), X_byte h hn hj, bnp_ok, e2, if_pos (show nI 32 = 32 from rfl), lt_ok, nI_1]
    rfl
  · unfold f4_endOfBlanks_L2 f7_length
    rw [show p + (sc pB B n p - p) = sc pB B n p by omega, bnp_ok, h.1]
    by_cases hz : sc pB B n p < n
    · have e := sc_out (P := pB) (B := B) hp hz
      have e2 : ¬ B (sc pB B n p) = 32 := of_decide_eq_false e
      have hb := hB.2 _ hz
      rw [if_neg (nI_ge hz (by omega)), X_byte h hn hz, bnp_ok, if_neg (show ¬ nI (B (sc pB B n p)) = 32 from ne_nI (b := 32) (by omega) (by decide) e2)]
    · rw [if_pos (nI_le (by omega) (by omega))]
theorem X_word {n : Nat} {B : Nat → Nat} {S : Mem} {N p : Nat} (h : XTx n B S) (hB : GTx n B) (hp : p ≤ n) (hN : 200 < N) : f4_endOfWord N (nI p) S = some (nI (sc pL B n p)) := by
  have hn := hB.1
  have hs := sc_le (P := pL) (B := B) hp
  unfold f4_endOfWord
  have k := lp_seq (f := fun s : Int32 => f4_endOfWord_L2 N s S) (fun i => nI (p + i)) (r := nI (sc pL B n p)) (N := N) (sc pL B n p - p) (fun i hi => ?_) ?_ (by omega)
  · rw [Nat.add_zero] at k
    rw [k, bnp_ok]
    rfl
  · have hj : p + i < n := by omega
    have e := sc_in (P := pL) (B := B) (n := n) (p := p) (j := p + i) (by omega) (by omega)
    unfold f4_endOfWord_L2 f7_length f4_isLetter
    rw [bnp_ok, h.1, if_neg (nI_ge hj (by omega)), X_byte h hn hj, bnp_ok, fX_btw, bnp_ok, btw_L (hB.2 _ hj), if_pos e]
    simp (disch := omega) only [bnp_ok, bnd_ok, lt_ok, c0, c1, c2, c3, nI_clamp, nI_neg, nI_ltI, nI_leI, nI_eq, lt_t, lt_f, le_t, le_f, eq_t, eq_f, or_true, true_or, or_false, false_or, if_true, if_false, not_true, not_false_iff, z0, o0, o1, and_true, true_and, and_false, false_and, nI_1]
    rfl
  · unfold f4_endOfWord_L2 f7_length f4_isLetter
    rw [show p + (sc pL B n p - p) = sc pL B n p by omega, bnp_ok, h.1]
    by_cases hz : sc pL B n p < n
    · have e := sc_out (P := pL) (B := B) hp hz
      have e2 : ¬ pL (B (sc pL B n p)) = true := by rw [e]; decide
      rw [if_neg (nI_ge hz (by omega)), X_byte h hn hz, bnp_ok, fX_btw, bnp_ok, btw_L (hB.2 _ hz), if_neg e2]
      simp (disch := omega) only [bnp_ok, bnd_ok, lt_ok, c0, c1, c2, c3, nI_clamp, nI_neg, nI_ltI, nI_leI, nI_eq, lt_t, lt_f, le_t, le_f, eq_t, eq_f, or_true, true_or, or_false, false_or, if_true, if_false, not_true, not_false_iff, z0, o0, o1, and_true, true_and, and_false, false_and]
    · rw [if_pos (nI_le (by omega) (by omega))]
theorem X_digits {n : Nat} {B : Nat → Nat} {S : Mem} {N p : Nat} (h : XTx n B S) (hB : GTx n B) (hp : p ≤ n) (hN : 200 < N) : f4_endOfDigits N (nI p) S = some (nI (sc pD B n p)) := by
  have hn := hB.1
  have hs := sc_le (P := pD) (B := B) hp
  unfold f4_endOfDigits
  have k := lp_seq (f := fun s : Int32 => f4_endOfDigits_L2 N s S) (fun i => nI (p + i)) (r := nI (sc pD B n p)) (N := N) (sc pD B n p - p) (fun i hi => ?_) ?_ (by omega)
  · rw [Nat.add_zero] at k
    rw [k, bnp_ok]
    rfl
  · have hj : p + i < n := by omega
    have e := sc_in (P := pD) (B := B) (n := n) (p := p) (j := p + i) (by omega) (by omega)
    unfold f4_endOfDigits_L2 f7_length f4_isDigit
    rw [bnp_ok, h.1, if_neg (nI_ge hj (by omega)), X_byte h hn hj, bnp_ok, fX_btw, bnp_ok, btw_D (hB.2 _ hj), if_pos e]
    simp (disch := omega) only [bnp_ok, bnd_ok, lt_ok, c0, c1, c2, c3, nI_clamp, nI_neg, nI_ltI, nI_leI, nI_eq, lt_t, lt_f, le_t, le_f, eq_t, eq_f, or_true, true_or, or_false, false_or, if_true, if_false, not_true, not_false_iff, z0, o0, o1, and_true, true_and, and_false, false_and, nI_1]
    rfl
  · unfold f4_endOfDigits_L2 f7_length f4_isDigit
    rw [show p + (sc pD B n p - p) = sc pD B n p by omega, bnp_ok, h.1]
    by_cases hz : sc pD B n p < n
    · have e := sc_out (P := pD) (B := B) hp hz
      have e2 : ¬ pD (B (sc pD B n p)) = true := by rw [e]; decide
      rw [if_neg (nI_ge hz (by omega)), X_byte h hn hz, bnp_ok, fX_btw, bnp_ok, btw_D (hB.2 _ hz), if_neg e2]
      simp (disch := omega) only [bnp_ok, bnd_ok, lt_ok, c0, c1, c2, c3, nI_clamp, nI_neg, nI_ltI, nI_leI, nI_eq, lt_t, lt_f, le_t, le_f, eq_t, eq_f, or_true, true_or, or_false, false_or, if_true, if_false, not_true, not_false_iff, z0, o0, o1, and_true, true_and, and_false, false_and]
    · rw [if_pos (nI_le (by omega) (by omega))]
/-- a literal's bytes -/
def wB (w k : Nat) : Nat := [[116, 104, 105, 110, 103], [111, 119, 110], [102, 105, 103, 117, 114, 101, 115]].getD w [] |>.getD k 0
def isW (B : Nat → Nat) (w q e : Nat) : Prop := e - q = strLen w ∧ ∀ k, k < strLen w → B (q + k) = wB w k
theorem wB_str : ∀ w, w < 3 → ∀ k, k < strLen w → (strByt w).getD k 0 = nI (wB w k) ∧ wB w k < 256 := by decide +kernel
theorem X_has {n : Nat} {B : Nat → Nat} {S : Mem} {N w q e : Nat} (h : XTx n B S) (hB : GTx n B) (hqe : q ≤ e) (he : e ≤ n) (hw : w < 3) (hN : 8 < N) : (isW B w q e ∧ f7_has N w (nI q) (nI e) S = some 1) ∨ (¬ isW B w q e ∧ f7_has N w (nI q) (nI e) S = some 0) := by
  have hn := hB.1
  have hl := strLen_le hw
  unfold f7_has
  have el : ∀ T : Mem, fS_length N w T = some (nI (strLen w)) := fun _ => rfl
  rw [el, bnp_ok, pk_sub hqe]
  by_cases h1 : e - q = strLen w
  · rw [if_pos (by rw [h1])]
    obtain ⟨r, k1, k2⟩ := lp_invE0 (f := fun s : Int32 => f7_has_L15 N w (nI q) s S) (s := (0 : Int32)) (N := N) (fun i s => s = nI i ∧ ∀ k, k < i → B (q + k) = wB w k)
      (fun r => (r = .inl 0 ∧ ¬ isW B w q e) ∨ (r = .inr () ∧ isW B w q e)) (strLen w)
      (by
        rintro i s hi ⟨rfl, h2⟩
        unfold f7_has_L15
        have hin : ¬ (nI i < 0 ∨ strLen w ≤ (nI i).toNatClampNeg) := nI_in hi (by omega)
        have ec : fS_charAt N w (nI i) S = some ((strByt w).getD i 0) := by
          unfold fS_charAt
          rw [if_neg hin, nI_clamp (by omega)]
        obtain ⟨c1, c2⟩ := wB_str w hw i hi
        have hb := hB.2 (q + i) (by omega)
        rw [el, bnp_ok, if_neg (nI_ge hi (by omega)), nI_add, X_byte h hn (by omega), bnp_ok, ec, bnp_ok, c1]
        by_cases h3 : B (q + i) = wB w i
        · refine Or.inl ⟨nI (i + 1), ?_, rfl, fun k hk => ?_⟩
          · rw [if_pos (by rw [h3]), lt_ok, nI_1]
          · by_cases e : k = i
            · rw [e]; exact h3
            · exact h2 k (by omega)
        · refine Or.inr ⟨.inl 0, ?_, Or.inl ⟨rfl, fun hz => h3 (hz.2 i hi)⟩⟩
          rw [if_neg (ne_nI (by omega) (by omega) h3)])
      (by
        rintro s ⟨rfl, h2⟩
        refine ⟨.inr (), ?_, Or.inr ⟨rfl, h1, h2⟩⟩
        unfold f7_has_L15
        rw [el, bnp_ok, if_pos (nI_le (Nat.le_refl _) (by omega))])
      (by omega) ⟨rfl, fun k hk => absurd hk (Nat.not_lt_zero k)⟩
    rw [k1, bnp_ok]
    rcases k2 with ⟨rfl, k3⟩ | ⟨rfl, k3⟩
    · exact Or.inr ⟨k3, rfl⟩
    · exact Or.inl ⟨k3, rfl⟩
  · exact Or.inr ⟨fun hz => h1 hz.1, if_neg (ne_nI (by omega) (by omega) h1)⟩
