theorem or8 : ∀ s, s < 8 → ∀ i, i < 3 → bt2 s i = 0 → s ||| 2 ^ i = s + 2 ^ i := by decide +kernel
theorem or8T : ∀ T, T ≤ 3 → ∀ s, s < 2 ^ T → ∀ i, i < T → bt2 s i = 0 → s + 2 ^ i < 2 ^ T := by decide +kernel
/-- what comes of it, with so many things looked at -/
def ocm (W : Nat → Nat) (O F T : Nat) (V : Nat → Nat) (s : Nat) : Nat → Nat
  | 0 => (ldw W s T + O) % F
  | i + 1 => if bt2 s i = 0 then (if pop s % 2 = 0 then (if ocm W O F T V s i < V (s + 2 ^ i) then V (s + 2 ^ i) else ocm W O F T V s i) else (if V (s + 2 ^ i) < ocm W O F T V s i then V (s + 2 ^ i) else ocm W O F T V s i)) else ocm W O F T V s i
def vs (W : Nat → Nat) (O F T : Nat) : Nat → Nat → Nat
  | 0 => fun _ => 0
  | i + 1 => fun s => if s = 2 ^ T - 1 - i then ocm W O F T (vs W O F T i) s T else vs W O F T i s
theorem ocm_lt {W : Nat → Nat} {O F T : Nat} {V : Nat → Nat} {s : Nat} (hF : 0 < F) (hV : ∀ j, V j < F) : ∀ i, ocm W O F T V s i < F
  | 0 => Nat.mod_lt _ hF
  | i + 1 => by
    have h := ocm_lt (W := W) (O := O) (T := T) (s := s) hF hV i
    have h2 := hV (s + 2 ^ i)
    unfold ocm
    split
    · split <;> split <;> assumption
    · exact h
theorem vs_lt {W : Nat → Nat} {O F T : Nat} (hF : 0 < F) : ∀ i s, vs W O F T i s < F
  | 0, _ => hF
  | i + 1, s => by
    have h := vs_lt (W := W) (O := O) (T := T) hF i
    unfold vs
    split
    · exact ocm_lt hF h T
    · exact h s
theorem X_turn {T : Nat} {W : Nat → Nat} {O F : Nat} {S : Mem} {N s : Nat} {V : Nat → Nat} (hX : XSc T W O F S) (hT : T ≤ 3) (hW : ∀ i, i < T → W i ≤ 9) (hO : O ≤ 9) (hF : 2 ≤ F ∧ F ≤ 20) (hN : 3 < N) (hs : s < 2 ^ T) (hV : ∀ j, V j < F) (hv : ∀ j, s < j → j < 2 ^ T → (S 14).1 j = nI (V j)) : f6_outcomeFrom_10 N (nI s) S = some (nI (ocm W O F T V s T)) := by
  have s8 := sx_lt hT hs
  have p3 := pow3 hT
  have hp := pop8_le s s8
  have hld := ld8 (W := W) (s := s) hT hW
  have hlt := fun i => ocm_lt (W := W) (O := O) (T := T) (s := s) (show 0 < F by omega) hV i
  have loop : ∀ v2 : Int32, (v2 = 0 ↔ ¬ pop s % 2 = 0) → lp N (fun t : Int32 × Int32 => f6_outcomeFrom_10_L33 N (nI s) v2 t.1 t.2 S) (nI ((ldw W s T + O) % F), (0 : Int32)) = some (nI (ocm W O F T V s T)) := by
    intro v2 hv2
    refine lp_seq (f := fun t : Int32 × Int32 => f6_outcomeFrom_10_L33 N (nI s) v2 t.1 t.2 S) (fun i => (nI (ocm W O F T V s i), nI i)) (r := nI (ocm W O F T V s T)) (N := N) T (fun i hi => ?_) ?_ (by omega)
    · dsimp only
      unfold f6_outcomeFrom_10_L33 f6_outcomeFrom_10_b86 f6_outcomeFrom_10_b85
      rw [hX.1, if_neg (nI_ge hi (by omega)), bit_nI (by omega) (by omega)]
      have hb := bt2_lt s i
      have h1 := hlt i
      have h2 := hV (s + 2 ^ i)
      have pi : 0 < 2 ^ i := Nat.pow_pos (by decide)
      by_cases hz : bt2 s i = 0
      · have e1 := or8 s s8 i (by omega) hz
        have e2 := or8T T hT s hs i hi hz
        rw [if_pos (show nI (bt2 s i) = 0 by rw [hz]; rfl), shl_nI (by omega), fa_or, e1, f5_get_in (by omega) (by decide), bnp_ok, hv _ (by omega) e2]
        have e3 : ocm W O F T V s (i + 1) = (if pop s % 2 = 0 then (if ocm W O F T V s i < V (s + 2 ^ i) then V (s + 2 ^ i) else ocm W O F T V s i) else (if V (s + 2 ^ i) < ocm W O F T V s i then V (s + 2 ^ i) else ocm W O F T V s i)) := by
          rw [ocm, if_pos hz]
        rw [e3]
        by_cases hm : pop s % 2 = 0
        · rw [if_neg (show ¬ v2 = 0 from fun h => hv2.mp h hm), if_pos hm]
          unfold f6_outcomeFrom_10_b86
          by_cases hc : ocm W O F T V s i < V (s + 2 ^ i)
          · rw [if_pos hc, if_pos (nI_lt hc (by omega)), lt_ok, nI_1]
          · rw [if_neg hc, if_neg (nI_nlt (by omega) (by omega)), lt_ok, nI_1]
        · rw [if_pos (show v2 = 0 from hv2.mpr hm), if_neg hm]
          unfold f6_outcomeFrom_10_b86
          by_cases hc : V (s + 2 ^ i) < ocm W O F T V s i
          · rw [if_pos hc, if_pos (nI_lt hc (by omega)), lt_ok, nI_1]
          · rw [if_neg hc, if_neg (nI_nlt (by omega) (by omega)), lt_ok, nI_1]
      · have e3 : ocm W O F T V s (i + 1) = ocm W O F T V s i := by rw [ocm, if_neg hz]
        rw [if_neg (show ¬ nI (bt2 s i) = 0 from ne_nI (b := 0) (by omega) (by decide) hz), lt_ok, nI_1, e3]
    · dsimp only
      unfold f6_outcomeFrom_10_L33
      rw [hX.1, if_pos (nI_le (Nat.le_refl _) (by omega))]
  unfold f6_outcomeFrom_10
  rw [f_bitCount (by omega), bnp_ok, if_neg (by decide)]
  have er : nI (pop s) - nI (pop s) / 2 * 2 = nI (pop s % 2) := pk_rem (d := 2) (by omega) (by decide) (by decide)
  have b14 : ∀ v2 : Int32, (v2 = 0 ↔ ¬ pop s % 2 = 0) → f6_outcomeFrom_10_b14 N (nI s) v2 S = some (nI (ocm W O F T V s T)) := by
    intro v2 hv2
    unfold f6_outcomeFrom_10_b14
    rw [f6_loadOf_ok hX hT (by omega) hN, bnp_ok, hX.2.2.1, nI_add, f6_leftOver_ok hX hF (by omega), bnp_ok, loop v2 hv2, bnp_ok]
    rfl
  rw [er]
  by_cases hm : pop s % 2 = 0
  · rw [if_pos (show nI (pop s % 2) = 0 by rw [hm]; rfl)]
    exact b14 1 ⟨fun h => absurd h (by decide), fun h => absurd hm h⟩
  · rw [if_neg (show ¬ nI (pop s % 2) = 0 from ne_nI (b := 0) (by omega) (by decide) hm)]
    exact b14 0 ⟨fun _ => hm, fun _ => rfl⟩
theorem M_turn {T : Nat} {W : Nat → Nat} {O F : Nat} {S : Mem} {N s : Nat} {V : Nat → Nat} (hX : MSc T W O F S) (hT : T ≤ 3) (hW : ∀ i, i < T → W i ≤ 9) (hO : O ≤ 9) (hF : 2 ≤ F ∧ F ≤ 20) (hN : 12 < N) (hs : s < 2 ^ T) (hV : ∀ j, V j < F) (hv : ∀ j, s < j → j < 2 ^ T → (S 69).1 j = nI (V j)) : f10_byTurns_L13 N (nI s) S = some (.inl (nI s + -1, wr S 69 s (nI (ocm W O F T V s T)))) := by
  have s8 := sx_lt hT hs
  have p3 := pow3 hT
  have hp := pop8_le s s8
  have hld := ld8 (W := W) (s := s) hT hW
  have hlt := fun i => ocm_lt (W := W) (O := O) (T := T) (s := s) (show 0 < F by omega) hV i
  have loop : ∀ v2 : Int32, (v2 = 0 ↔ ¬ pop s % 2 = 0) → lp N (fun t : Int32 × Int32 => f10_byTurns_L49 N (nI s) v2 t.1 t.2 S) (nI ((ldw W s T + O) % F), (0 : Int32)) = some (nI (ocm W O F T V s T)) := by
    intro v2 hv2
    refine lp_seq (f := fun t : Int32 × Int32 => f10_byTurns_L49 N (nI s) v2 t.1 t.2 S) (fun i => (nI (ocm W O F T V s i), nI i)) (r := nI (ocm W O F T V s T)) (N := N) T (fun i hi => ?_) ?_ (by omega)
    · dsimp only
      unfold f10_byTurns_L49 f10_byTurns_b119 f10_byTurns_b117
      simp (disch := omega) only [bnp_ok, bnd_ok, lt_ok, c0, c1, c2, c3, nI_clamp, nI_neg, nI_ltI, nI_leI, nI_eq, lt_t, lt_f, le_t, le_f, eq_t, eq_f, or_true, true_or, or_false, false_or, if_true, if_false, not_true, not_false_iff, z0, o0, o1, and_true, true_and, and_false, false_and, hX.1]
      rw [bit_nI (by omega) (by omega)]
      have hb := bt2_lt s i
      have h1 := hlt i
      have h2 := hV (s + 2 ^ i)
      have pi : 0 < 2 ^ i := Nat.pow_pos (by decide)
      by_cases hz : bt2 s i = 0
      · have e1 := or8 s s8 i (by omega) hz
        have e2 := or8T T hT s hs i hi hz
        have ev := hv _ (show s < s + 2 ^ i by omega) e2
        rw [if_pos (show nI (bt2 s i) = 0 by rw [hz]; rfl), shl_nI (by omega), fa_or, e1]
        simp (disch := omega) only [bnp_ok, bnd_ok, lt_ok, c0, c1, c2, c3, nI_clamp, nI_neg, nI_ltI, nI_leI, nI_eq, lt_t, lt_f, le_t, le_f, eq_t, eq_f, or_true, true_or, or_false, false_or, if_true, if_false, not_true, not_false_iff, z0, o0, o1, and_true, true_and, and_false, false_and, ev]
        have e3 : ocm W O F T V s (i + 1) = (if pop s % 2 = 0 then (if ocm W O F T V s i < V (s + 2 ^ i) then V (s + 2 ^ i) else ocm W O F T V s i) else (if V (s + 2 ^ i) < ocm W O F T V s i then V (s + 2 ^ i) else ocm W O F T V s i)) := by
          rw [ocm, if_pos hz]
        rw [e3]
        unfold f10_byTurns_b119
        by_cases hm : pop s % 2 = 0
        · rw [if_neg (show ¬ v2 = 0 from fun h => hv2.mp h hm), if_pos hm]
          by_cases hc : ocm W O F T V s i < V (s + 2 ^ i)
          · rw [if_pos hc, if_neg (by omega), lt_ok, nI_1]
          · rw [if_neg hc, if_pos (by omega), lt_ok, nI_1]
        · rw [if_pos (show v2 = 0 from hv2.mpr hm), if_neg hm]
          by_cases hc : V (s + 2 ^ i) < ocm W O F T V s i
          · rw [if_pos hc, if_neg (by omega), lt_ok, nI_1]
          · rw [if_neg hc, if_pos (by omega), lt_ok, nI_1]
      · have e3 : ocm W O F T V s (i + 1) = ocm W O F T V s i := by rw [ocm, if_neg hz]
        rw [if_neg (show ¬ nI (bt2 s i) = 0 from ne_nI (b := 0) (by omega) (by decide) hz), nI_1, e3]
    · dsimp only
      unfold f10_byTurns_L49
      simp (disch := omega) only [bnp_ok, bnd_ok, lt_ok, c0, c1, c2, c3, nI_clamp, nI_neg, nI_ltI, nI_leI, nI_eq, lt_t, lt_f, le_t, le_f, eq_t, eq_f, or_true, true_or, or_false, false_or, if_true, if_false, not_true, not_false_iff, z0, o0, o1, and_true, true_and, and_false, false_and, hX.1]
  unfold f10_byTurns_L13
  have er : nI (pop s) - nI (pop s) / 2 * 2 = nI (pop s % 2) := pk_rem (d := 2) (by omega) (by decide) (by decide)
  rw [if_neg (nI_pos (by omega)), f_bitsIn (by omega) hN, bnp_ok, if_neg (by decide), er]
  have e0 : ¬ nI F = 0 := ne_nI (b := 0) (by omega) (by decide) (by omega)
  have b31 : ∀ v2 : Int32, (v2 = 0 ↔ ¬ pop s % 2 = 0) → f10_byTurns_b31 N (nI s) v2 S = some (.inl (nI s + -1, wr S 69 s (nI (ocm W O F T V s T)))) := by
    intro v2 hv2
    unfold f10_byTurns_b31 f10_byTurns_b125
    rw [f10_trueSum_ok hX hT (by omega) (by omega), bnp_ok]
    simp (disch := omega) only [bnp_ok, bnd_ok, lt_ok, c0, c1, c2, c3, nI_clamp, nI_neg, nI_ltI, nI_leI, nI_eq, lt_t, lt_f, le_t, le_f, eq_t, eq_f, or_true, true_or, or_false, false_or, if_true, if_false, not_true, not_false_iff, z0, o0, o1, and_true, true_and, and_false, false_and, hX.2.2.2, e0]
    rw [pk_rem (by omega) (by omega) (by omega), Nat.add_comm O, loop v2 hv2, bnp_ok]
  by_cases hm : pop s % 2 = 0
  · rw [if_pos (show nI (pop s % 2) = 0 by rw [hm]; rfl)]
    exact b31 1 ⟨fun h => absurd h (by decide), fun h => absurd hm h⟩
  · rw [if_neg (show ¬ nI (pop s % 2) = 0 from ne_nI (b := 0) (by omega) (by decide) hm)]
    exact b31 0 ⟨fun _ => hm, fun _ => rfl⟩
theorem op_byTurns {a : Ab} {S : Mem} {N : Nat} (hN : 12 < N) (hG : GA a) (hX : XA a S) (hM : MA a S) : ∃ r S1 S2, f9_byTurns N S = some (r, S1) ∧ f10_byTurns N S1 = some (r, S2) ∧ Nxt a a S S2 := by
  obtain ⟨hT, hW0, hO, hF1, hF2⟩ := hG.2.1
  have hW := fun i hi => (hW0 i hi).2
  have p3 := pow3 hT
  have hF : 0 < a.2.1.2.2.2 := by omega
  have hV := vs_lt (W := a.2.1.2.1) (O := a.2.1.2.2.1) (T := a.2.1.1) hF
  have e1 : nI (2 ^ a.2.1.1) - 1 = nI (2 ^ a.2.1.1 - 1) := pk_sub (b := 1) (by omega)
  -- the class
  obtain ⟨S1, k1, k2, k3⟩ := lp_inv (f := fun s : Int32 × Mem => f6_shownByTurns_10_L7 N s.1 s.2) (s := (nI (2 ^ a.2.1.1) - 1, S)) (N := N)
    (fun i s => s.1 = nI (2 ^ a.2.1.1 - i) - 1 ∧ (∀ q, q ≠ 14 → s.2 q = S q) ∧ ∀ j, 2 ^ a.2.1.1 - i ≤ j → j < 2 ^ a.2.1.1 → (s.2 14).1 j = nI (vs a.2.1.2.1 a.2.1.2.2.1 a.2.1.2.2.2 a.2.1.1 i j))
    (fun S' => (∀ q, q ≠ 14 → S' q = S q) ∧ ∀ j, j < 2 ^ a.2.1.1 → (S' 14).1 j = nI (vs a.2.1.2.1 a.2.1.2.2.1 a.2.1.2.2.2 a.2.1.1 (2 ^ a.2.1.1) j)) (2 ^ a.2.1.1)
    (by
      rintro i ⟨x, U⟩ hi ⟨hx, h1, h2⟩
      dsimp only at hx h1 h2 ⊢
      subst hx
      have e2 : nI (2 ^ a.2.1.1 - i) - 1 = nI (2 ^ a.2.1.1 - 1 - i) := by rw [show 2 ^ a.2.1.1 - 1 - i = 2 ^ a.2.1.1 - i - 1 by omega]; exact pk_sub (b := 1) (by omega)
      have XU : XSc a.2.1.1 a.2.1.2.1 a.2.1.2.2.1 a.2.1.2.2.2 U := XSc_eq hX.2.1 (h1 10 (by decide)) (h1 12 (by decide))
      have hs : 2 ^ a.2.1.1 - 1 - i < 2 ^ a.2.1.1 := by omega
      have ht := X_turn (N := N) XU hT hW hO (by omega) (by omega) hs (hV i) (fun j h3 h4 => h2 j (by omega) h4)
      refine ⟨(nI (2 ^ a.2.1.1 - (i + 1)) - 1, wr U 14 (2 ^ a.2.1.1 - 1 - i) (nI (ocm a.2.1.2.1 a.2.1.2.2.1 a.2.1.2.2.2 a.2.1.1 (vs a.2.1.2.1 a.2.1.2.2.1 a.2.1.2.2.2 a.2.1.1 i) (2 ^ a.2.1.1 - 1 - i) a.2.1.1))), ?_, rfl, fun q hq => ?_, fun j h3 h4 => ?_⟩
      · unfold f6_shownByTurns_10_L7
        rw [e2, if_neg (nI_pos (by omega)), ht, bnp_ok, f5_put_in (by omega) (by decide), bnd_ok, lt_ok]
        rw [show 2 ^ a.2.1.1 - (i + 1) = 2 ^ a.2.1.1 - 1 - i by omega, Int32.sub_eq_add_neg]
      · dsimp only
        rw [wr_ne _ _ _ _ hq, h1 q hq]
      · dsimp only
        rw [wr_at]
        dsimp only
        rw [upd_ap, vs]
        dsimp only
        by_cases e : j = 2 ^ a.2.1.1 - 1 - i
        · rw [if_pos e, if_pos e, e]
        · rw [if_neg e, if_neg e]
          exact h2 j (by omega) h4)
    (by
      rintro ⟨x, U⟩ ⟨hx, h1, h2⟩
      dsimp only at hx h1 h2 ⊢
      subst hx
      refine ⟨U, ?_, h1, fun j hj => h2 j (by omega) hj⟩
      unfold f6_shownByTurns_10_L7
      rw [Nat.sub_self, if_pos (by decide)])
    (by omega) ⟨rfl, fun _ _ => rfl, fun j h3 h4 => absurd h4 (by omega)⟩
  have hM1 : MA a S1 := MA_keep hM (fun q hq => k2 q (by omega))
  -- the model
  obtain ⟨S2, j1, j2, j3⟩ := lp_inv (f := fun s : Int32 × Mem => f10_byTurns_L13 N s.1 s.2) (s := (nI (2 ^ a.2.1.1) - 1, S1)) (N := N)
    (fun i s => s.1 = nI (2 ^ a.2.1.1 - i) - 1 ∧ (∀ q, q ≠ 69 → s.2 q = S1 q) ∧ ∀ j, 2 ^ a.2.1.1 - i ≤ j → j < 2 ^ a.2.1.1 → (s.2 69).1 j = nI (vs a.2.1.2.1 a.2.1.2.2.1 a.2.1.2.2.2 a.2.1.1 i j))
    (fun S' => (∀ q, q ≠ 69 → S' q = S1 q) ∧ ∀ j, j < 2 ^ a.2.1.1 → (S' 69).1 j = nI (vs a.2.1.2.1 a.2.1.2.2.1 a.2.1.2.2.2 a.2.1.1 (2 ^ a.2.1.1) j)) (2 ^ a.2.1.1)
    (by
      rintro i ⟨x, U⟩ hi ⟨hx, h1, h2⟩
      dsimp only at hx h1 h2 ⊢
      subst hx
      have e2 : nI (2 ^ a.2.1.1 - i) - 1 = nI (2 ^ a.2.1.1 - 1 - i) := by rw [show 2 ^ a.2.1.1 - 1 - i = 2 ^ a.2.1.1 - i - 1 by omega]; exact pk_sub (b := 1) (by omega)
      have XU : MSc a.2.1.1 a.2.1.2.1 a.2.1.2.2.1 a.2.1.2.2.2 U := MSc_eq hM1.2.1 (h1 59 (by decide)) (h1 60 (by decide)) (h1 61 (by decide))
      have hs : 2 ^ a.2.1.1 - 1 - i < 2 ^ a.2.1.1 := by omega
      have ht := M_turn (N := N) XU hT hW hO (by omega) hN hs (hV i) (fun j h3 h4 => h2 j (by omega) h4)
      refine ⟨(nI (2 ^ a.2.1.1 - (i + 1)) - 1, wr U 69 (2 ^ a.2.1.1 - 1 - i) (nI (ocm a.2.1.2.1 a.2.1.2.2.1 a.2.1.2.2.2 a.2.1.1 (vs a.2.1.2.1 a.2.1.2.2.1 a.2.1.2.2.2 a.2.1.1 i) (2 ^ a.2.1.1 - 1 - i) a.2.1.1))), ?_, rfl, fun q hq => ?_, fun j h3 h4 => ?_⟩
      · rw [e2, ht]
        rw [show 2 ^ a.2.1.1 - (i + 1) = 2 ^ a.2.1.1 - 1 - i by omega, Int32.sub_eq_add_neg]
      · dsimp only
        rw [wr_ne _ _ _ _ hq, h1 q hq]
      · dsimp only
        rw [wr_at]
        dsimp only
        rw [upd_ap, vs]
        dsimp only
        by_cases e : j = 2 ^ a.2.1.1 - 1 - i
        · rw [if_pos e, if_pos e, e]
        · rw [if_neg e, if_neg e]
          exact h2 j (by omega) h4)
    (by
      rintro ⟨x, U⟩ ⟨hx, h1, h2⟩
      dsimp only at hx h1 h2 ⊢
      subst hx
      refine ⟨U, ?_, h1, fun j hj => h2 j (by omega) hj⟩
      unfold f10_byTurns_L13
      rw [Nat.sub_self, if_pos (by decide)])
    (by omega) ⟨rfl, fun _ _ => rfl, fun j h3 h4 => absurd h4 (by omega)⟩
  refine ⟨nI (vs a.2.1.2.1 a.2.1.2.2.1 a.2.1.2.2.2 a.2.1.1 (2 ^ a.2.1.1) 0), S1, S2, ?_, ?_, hG, ?_, ?_, Or.inr ⟨rfl, rfl, fun q hq => ?_⟩⟩
  · unfold f9_byTurns f6_shownByTurns_10 f6_shownByTurns_10_b30
    rw [f6_sets_ok hX.2.1 hT, bnp_ok, lt_ok, k1, bnp_ok, show (0 : Int32) = nI 0 from rfl, f5_get_in (by decide) (by decide), bnp_ok, bnd_ok, k3 0 (by omega)]
  · unfold f10_byTurns f10_byTurns_b139
    simp (disch := omega) only [bnp_ok, bnd_ok, lt_ok, c0, c1, c2, c3, nI_clamp, nI_neg, nI_ltI, nI_leI, nI_eq, lt_t, lt_f, le_t, le_f, eq_t, eq_f, or_true, true_or, or_false, false_or, if_true, if_false, not_true, not_false_iff, z0, o0, o1, and_true, true_and, and_false, false_and, hM1.2.1.1]
    rw [shl_nI (by omega), j1, bnp_ok]
    simp (disch := omega) only [bnp_ok, bnd_ok, lt_ok, c0, c1, c2, c3, nI_clamp, nI_neg, nI_ltI, nI_leI, nI_eq, lt_t, lt_f, le_t, le_f, eq_t, eq_f, or_true, true_or, or_false, false_or, if_true, if_false, not_true, not_false_iff, z0, o0, o1, and_true, true_and, and_false, false_and, j3 0 (by omega)]
  · refine XA_eq hX (fun q hq => ?_)
    have hq2 : q ≠ 69 ∧ q ≠ 14 := by revert q; decide
    rw [j2 q hq2.1, k2 q hq2.2]
  · refine MA_eq hM (by rw [j2 57 (by decide), k2 57 (by decide)]; exact ⟨rfl, rfl⟩) (fun q hq => ?_)
    have hq2 : q ≠ 69 ∧ q ≠ 14 := by revert q; decide
    rw [j2 q hq2.1, k2 q hq2.2]
  · have hq2 : q ≠ 69 ∧ q ≠ 14 := by revert q; decide
    rw [j2 q hq2.1, k2 q hq2.2]
