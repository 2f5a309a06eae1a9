/-! THE PLAN: WORLDS LEFT, ONE AFTER ANOTHER -/
def nx (T F : Nat) (b : Bk) (p : Nat) : Nat := p + fa_first (fun k => lf T F b (p + k)) (10000 - p)
theorem nx_ge {T F p : Nat} {b : Bk} : p ≤ nx T F b p := Nat.le_add_right _ _
theorem nx_le {T F p : Nat} {b : Bk} (h : p ≤ 10000) : nx T F b p ≤ 10000 := by
  have := fa_first_le (fun k => lf T F b (p + k)) (10000 - p)
  unfold nx; omega
theorem nx_no {T F p y : Nat} {b : Bk} (h1 : p ≤ y) (h2 : y < nx T F b p) : lf T F b y = false := by
  have h := fa_first_no (fun k => lf T F b (p + k)) (10000 - p) (y - p) (by unfold nx at h2; omega)
  rw [show p + (y - p) = y by omega] at h
  exact h
theorem nx_yes {T F p : Nat} {b : Bk} (h : p ≤ 10000) (h2 : nx T F b p < 10000) : lf T F b (nx T F b p) = true := by
  have h := fa_first_yes (fun k => lf T F b (p + k)) (10000 - p) (by unfold nx at h2; omega)
  exact h
theorem sm_nx {T F p : Nat} {b : Bk} {g : Nat → Nat} (hg : ∀ x, lf T F b x = false → g x = 0) : fb_sm g (nx T F b p) = fb_sm g p := by
  obtain ⟨d, hd⟩ : ∃ d, nx T F b p = p + d := ⟨nx T F b p - p, by have := nx_ge (T := T) (F := F) (b := b) (p := p); omega⟩
  have hz : fb_sm (fun k => g (p + k)) d = 0 := sm_none (fun k hk => hg _ (nx_no (p := p) (by omega) (by omega)))
  rw [hd, fb_sm_split, hz, Nat.add_zero]
theorem gA_no {T F x : Nat} {b : Bk} (h : lf T F b x = false) : gA T F b x = 0 := by
  unfold gA
  rw [if_neg (by rw [h]; decide)]
theorem gA_yes {T F x : Nat} {b : Bk} (h : lf T F b x = true) : gA T F b x = 1 := by
  unfold gA
  rw [if_pos h]
/-- one more is left -/
theorem nx_lt {T F p : Nat} {b : Bk} (hp : p ≤ 10000) (h : fb_sm (gA T F b) p < fb_sm (gA T F b) 10000) : nx T F b p < 10000 := by
  rcases Nat.lt_or_ge (nx T F b p) 10000 with c | c
  · exact c
  · have e : nx T F b p = 10000 := by have := nx_le (T := T) (F := F) (b := b) hp; omega
    have := sm_nx (T := T) (F := F) (b := b) (p := p) (g := gA T F b) (fun x hx => gA_no hx)
    rw [e] at this
    omega
/-- all that are left are met -/
theorem met_all {T F p : Nat} {b : Bk} (hp : p ≤ 10000) (h : fb_sm (gA T F b) p = fb_sm (gA T F b) 10000) {y : Nat} (h1 : p ≤ y) (h2 : y < 10000) : lf T F b y = false := by
  obtain ⟨d, hd⟩ : ∃ d, 10000 = p + d := ⟨10000 - p, by omega⟩
  rw [hd, fb_sm_split] at h
  have hz := fb_sm_zero (show fb_sm (fun k => gA T F b (p + k)) d = 0 by omega) (y - p) (by omega)
  rw [show p + (y - p) = y by omega] at hz
  by_cases c : lf T F b y = true
  · rw [gA_yes c] at hz; cases hz
  · exact eq_false_of_ne_true c
theorem sm_met {T F p : Nat} {b : Bk} {g : Nat → Nat} (hp : p ≤ 10000) (h : fb_sm (gA T F b) p = fb_sm (gA T F b) 10000) (hg : ∀ x, lf T F b x = false → g x = 0) : fb_sm g p = fb_sm g 10000 := by
  obtain ⟨d, hd⟩ : ∃ d, 10000 = p + d := ⟨10000 - p, by omega⟩
  have := fun k (hk : k < d) => hg _ (met_all (T := T) (F := F) (b := b) hp h (y := p + k) (by omega) (by omega))
  rw [hd, fb_sm_split, sm_none this, Nat.add_zero]
theorem ushr_amt : ∀ r, r < 32 → (((nI r).toUInt32 &&& Int32.toUInt32 31).toBitVec % 32).toNat = r := by decide
theorem or31 (q : Nat) : q ||| 31 = 32 * (q / 32) + 31 := by
  have h1 := Nat.two_pow_add_eq_or_of_lt (show q % 32 < 2 ^ 5 from Nat.mod_lt _ (by decide)) (q / 32)
  have h2 := Nat.two_pow_add_eq_or_of_lt (show 31 < 2 ^ 5 by decide) (q / 32)
  have e : ∀ r, r < 32 → r ||| 31 = 31 := by decide
  have h3 : q = 2 ^ 5 * (q / 32) ||| q % 32 := by
    rw [← h1]
    exact (Nat.div_add_mod q 32).symm
  have h4 : q ||| 31 = (2 ^ 5 * (q / 32) ||| q % 32) ||| 31 := by rw [← h3]
  rw [h4, Nat.or_assoc, e _ (Nat.mod_lt _ (by decide)), ← h2]
theorem X_after {T F N p : Nat} {b : Bk} {S : Mem} (h : TB T F b S) (hp : p ≤ 10000) (hN : 10002 < N) : f8_leftAfter N (nI p - 1) S = some (nI (nx T F b p)) := by
  unfold f8_leftAfter f8_leftAfter_b56
  have e0 : nI p - 1 + 1 = nI p := Int32.sub_add_cancel _ _
  rw [e0, lt_ok]
  obtain ⟨r, k1, k2⟩ := lp_invE0 (f := fun s : Int32 => f8_leftAfter_L4 N s S) (s := nI p) (N := N)
    (fun i s => ∃ q, s = nI q ∧ p + i ≤ q ∧ q ≤ 10016 ∧ ∀ y, p ≤ y → y < q → y < 10000 → lf T F b y = false)
    (fun r => (nx T F b p < 10000 ∧ r = .inl (nI (nx T F b p))) ∨ (nx T F b p = 10000 ∧ r = .inr ())) 10001
    (by
      rintro i s hi ⟨q, rfl, q1, q2, q3⟩
      unfold f8_leftAfter_L4 f8_leftAfter_b52
      by_cases hq : 10000 ≤ q
      · refine Or.inr ⟨.inr (), by rw [if_pos (show (10000 : Int32) ≤ nI q from nI_le (a := 10000) hq (by omega))], Or.inr ⟨?_, rfl⟩⟩
        rcases Nat.lt_or_ge (nx T F b p) 10000 with c | c
        · have := nx_yes hp c
          rw [q3 _ nx_ge (by omega) c] at this
          cases this
        · have := nx_le (T := T) (F := F) (b := b) hp
          omega
      · have hq : q < 10000 := by omega
        have e5 : nI q >>> ((5 : Int32) &&& 31) = nI (q / 32) := pk_shrN (by omega) _ 5 (by decide)
        have e31 : nI q &&& (31 : Int32) = nI (q % 32) := pk_andN (by omega) 5 (by decide)
        have r32 : q % 32 < 32 := Nat.mod_lt _ (by decide)
        rw [if_neg (show ¬ (10000 : Int32) ≤ nI q from nI_ge (b := 10000) hq (by decide)), e5, f5_get_in (by omega) (by decide), bnp_ok, e31, lt_ok]
        obtain ⟨w, hw⟩ : ∃ w, w = (S (42 + 1)).1 (q / 32) := ⟨_, rfl⟩
        rw [← hw]
        have hsh := pk_ushr w (nI (q % 32)) (q % 32) (ushr_amt _ r32)
        have hbit : ∀ t, t < 32 → q / 32 * 32 + t < 10000 → w.toBitVec.toNat.testBit t = lf T F b (q / 32 * 32 + t) := by
          intro t ht hy
          have := h.2.2.2.2.1 (q / 32 * 32 + t) hy
          rw [show (q / 32 * 32 + t) / 32 = q / 32 by omega, show (q / 32 * 32 + t) % 32 = t by omega] at this
          rw [hw]
          exact this
        generalize (w.toUInt32 >>> ((nI (q % 32)).toUInt32 &&& Int32.toUInt32 31)).toInt32 = z at hsh ⊢
        have hand : z &&& (1 : Int32) = nI (w.toBitVec.toNat / 2 ^ (q % 32) % 2) := by
          rw [← hsh]
          exact pk_and z 1 (by decide)
        have hlf : (w.toBitVec.toNat / 2 ^ (q % 32) % 2 = 1) = (lf T F b q = true) := by
          have hb := hbit (q % 32) r32 (by omega)
          rw [show q / 32 * 32 + q % 32 = q by omega, Nat.testBit_eq_decide_div_mod_eq] at hb
          rw [← hb, decide_eq_true_eq]
        rw [hand]
        have m2 : w.toBitVec.toNat / 2 ^ (q % 32) % 2 < 2 := Nat.mod_lt _ (by decide)
        by_cases c1 : lf T F b q = true
        · have e1 : w.toBitVec.toNat / 2 ^ (q % 32) % 2 = 1 := hlf.mpr c1
          have en : nx T F b p = q := by
            rcases Nat.lt_trichotomy (nx T F b p) q with g | g | g
            · have := nx_yes hp (show nx T F b p < 10000 by omega)
              rw [q3 _ nx_ge g (by omega)] at this
              cases this
            · exact g
            · have := nx_no (T := T) (F := F) (b := b) (p := p) (y := q) (by omega) g
              rw [c1] at this
              cases this
          exact Or.inr ⟨.inl (nI q), by rw [e1, if_pos (show nI 1 = 1 from rfl)], Or.inl ⟨by omega, by rw [en]⟩⟩
        · have e1 : w.toBitVec.toNat / 2 ^ (q % 32) % 2 = 0 := by
            have : ¬ w.toBitVec.toNat / 2 ^ (q % 32) % 2 = 1 := fun z => c1 (hlf.mp z)
            omega
          rw [e1, if_neg (show ¬ nI 0 = 1 by decide)]
          by_cases c2 : z = 0
          · rw [if_pos c2]
            have eq31 : nI q ||| (31 : Int32) = nI (32 * (q / 32) + 31) := by
              rw [show (31 : Int32) = nI 31 from rfl, fa_or, or31]
            refine Or.inl ⟨nI (32 * (q / 32) + 31 + 1), by rw [eq31, nI_1], 32 * (q / 32) + 31 + 1, rfl, by omega, by omega, fun y y1 y2 y3 => ?_⟩
            by_cases c3 : y < q
            · exact q3 y y1 c3 y3
            · have h0 : w.toBitVec.toNat / 2 ^ (q % 32) = 0 := by rw [← hsh, c2]; rfl
              have hlt : w.toBitVec.toNat < 2 ^ (q % 32) := (Nat.div_eq_zero_iff_lt (Nat.two_pow_pos _)).mp h0
              have hb := hbit (y % 32) (Nat.mod_lt _ (by decide)) (by omega)
              rw [show q / 32 * 32 + y % 32 = y by omega] at hb
              rw [← hb]
              exact Nat.testBit_lt_two_pow (Nat.lt_of_lt_of_le hlt (Nat.pow_le_pow_right (by decide) (by omega)))
          · rw [if_neg c2]
            refine Or.inl ⟨nI (q + 1), by rw [nI_1], q + 1, rfl, by omega, by omega, fun y y1 y2 y3 => ?_⟩
            by_cases c3 : y = q
            · rw [c3]; exact eq_false_of_ne_true c1
            · exact q3 y y1 (by omega) y3)
    (by
      rintro s ⟨q, rfl, q1, q2, q3⟩
      refine ⟨.inr (), ?_, Or.inr ⟨?_, rfl⟩⟩
      · unfold f8_leftAfter_L4
        rw [if_pos (show (10000 : Int32) ≤ nI q from nI_le (a := 10000) (by omega) (by omega))]
      · rcases Nat.lt_or_ge (nx T F b p) 10000 with c | c
        · have := nx_yes hp c
          rw [q3 _ nx_ge (by omega) c] at this
          cases this
        · have := nx_le (T := T) (F := F) (b := b) hp
          omega)
    (by omega) ⟨p, rfl, Nat.le_refl _, by omega, fun y y1 y2 => by omega⟩
  rw [k1, bnp_ok]
  rcases k2 with ⟨c, rfl⟩ | ⟨c, rfl⟩
  · rfl
  · rw [c]
    rfl
/-- what a set shows in a world -/
theorem X_load {x s N : Nat} {S : Mem} (hx : x < 10000) (hs : s < 8) : f8_loadIn N (nI x) (nI s) S = some (nI (ld x s)) := by
  have n10 : ¬ (10 : Int32) = 0 := by decide
  have n100 : ¬ (100 : Int32) = 0 := by decide
  have n1000 : ¬ (1000 : Int32) = 0 := by decide
  have d1 : nI x / (1000 : Int32) = nI (x / 1000) := pk_div (d := 1000) (by omega) (by decide) (by decide)
  have d2 : nI x / (100 : Int32) = nI (x / 100) := pk_div (d := 100) (by omega) (by decide) (by decide)
  have d3 : nI x / (10 : Int32) = nI (x / 10) := pk_div (d := 10) (by omega) (by decide) (by decide)
  have d4 : nI (x / 100) - nI (x / 100) / (10 : Int32) * (10 : Int32) = nI (x / 100 % 10) := pk_rem (d := 10) (by omega) (by decide) (by decide)
  have d5 : nI (x / 10) - nI (x / 10) / (10 : Int32) * (10 : Int32) = nI (x / 10 % 10) := pk_rem (d := 10) (by omega) (by decide) (by decide)
  have d6 : nI x - nI (x / 10) * (10 : Int32) = nI (x % 10) := by
    rw [← d3]
    exact pk_rem (d := 10) (by omega) (by decide) (by decide)
  have b0 : (nI s &&& (1 : Int32) = 0) = (bt2 s 0 = 0) := by
    have : ∀ s, s < 8 → (nI s &&& (1 : Int32) = 0 ↔ bt2 s 0 = 0) := by decide
    exact propext (this s hs)
  have b1 : (nI s &&& (2 : Int32) = 0) = (bt2 s 1 = 0) := by
    have : ∀ s, s < 8 → (nI s &&& (2 : Int32) = 0 ↔ bt2 s 1 = 0) := by decide
    exact propext (this s hs)
  have b2 : (nI s &&& (4 : Int32) = 0) = (bt2 s 2 = 0) := by
    have : ∀ s, s < 8 → (nI s &&& (4 : Int32) = 0 ↔ bt2 s 2 = 0) := by decide
    exact propext (this s hs)
  unfold f8_loadIn f8_loadIn_b19 f8_loadIn_b35 ld
  simp only [n10, n100, n1000, if_false, d1, d2, d3, d4, d5, d6, b0, b1, b2, lt_ok, nI_add]
  have t0 := bt2_lt s 0
  have t1 := bt2_lt s 1
  have t2 := bt2_lt s 2
  rcases (show bt2 s 0 = 0 ∨ bt2 s 0 = 1 by omega) with e0 | e0 <;> rcases (show bt2 s 1 = 0 ∨ bt2 s 1 = 1 by omega) with e1 | e1 <;> rcases (show bt2 s 2 = 0 ∨ bt2 s 2 = 1 by omega) with e2 | e2 <;> simp [e0, e1, e2]
theorem X_shown {T F N x s : Nat} {b : Bk} {S : Mem} (hX : XSt T F b S) (hG : GSt T F b) (hx : x < 10000) (hs : s < 8) : f3_shownIn N (nI x) (nI s) S = some (nI (ld x s % F)) := by
  have := ld_le (s := s) hx
  unfold f3_shownIn
  rw [X_load hx hs, bnp_ok, X_left hX hG (by omega), bnp_ok]
