/-! THE MODEL AND A WORLD -/
/-- what the model reads of the book, and a frame that keeps it -/
def MSt (T F : Nat) (b : Bk) (S : Mem) : Prop := (S 59).1 0 = nI T ∧ (S 61).1 0 = nI F ∧ MBk b S 0
def GSt (T F : Nat) (b : Bk) : Prop := T ≤ 3 ∧ 2 ≤ F ∧ F ≤ 20 ∧ GBk T F b
def MW (T x : Nat) (S : Mem) : Prop := (S 65).1 3 = nI (dg x 3) ∧ ∀ i, i < T → (S 65).1 i = nI (dg x i)
def FW (S S' : Mem) : Prop := ∀ q, q < 65 → S' q = S q
theorem FW_refl (S : Mem) : FW S S := fun _ _ => rfl
theorem FW_tr {S S' S'' : Mem} (h1 : FW S S') (h2 : FW S' S'') : FW S S'' := fun q hq => (h2 q hq).trans (h1 q hq)
theorem FW_65 {S S' : Mem} (h : ∀ q, q ≠ 65 → S' q = S q) : FW S S' := fun q hq => h q (by omega)
theorem FW_wr {S : Mem} {k j : Nat} {x : Int32} (hk : 65 ≤ k) : FW S (wr S k j x) := fun q hq => wr_ne _ _ _ _ (by omega)
theorem MSt_fw {T F : Nat} {b : Bk} {S S' : Mem} (h : MSt T F b S) (f : FW S S') : MSt T F b S' := by
  obtain ⟨h1, h2, h3⟩ := h
  exact ⟨by rw [f 59 (by decide)]; exact h1, by rw [f 61 (by decide)]; exact h2, MBk_eq h3 (f 62 (by decide)) (f 63 (by decide))⟩
theorem MA_MSt {a : Ab} {S : Mem} (h : MA a S) : MSt a.2.1.1 a.2.1.2.2.2 a.2.2.1 S := ⟨h.2.1.1, h.2.1.2.2.2, h.2.2.1⟩
theorem GA_GSt {a : Ab} (h : GA a) : GSt a.2.1.1 a.2.1.2.2.2 a.2.2.1 := ⟨h.2.1.1, h.2.1.2.2.2.1, h.2.1.2.2.2.2, h.2.2.1⟩
theorem MA_fw {a : Ab} {S S' : Mem} (h : MA a S) (f : FW S S') : MA a S' := MA_eq h (by rw [f 57 (by decide)]; exact ⟨rfl, rfl⟩) (fun q hq => f q (by revert q; decide))
theorem XA_fw {a : Ab} {S S' : Mem} (h : XA a S) (f : FW S S') : XA a S' := XA_keep h (fun q hq => f q (by omega))
theorem M_worlds {T F : Nat} {b : Bk} {S : Mem} {N : Nat} (h : MSt T F b S) (hG : GSt T F b) (hN : 3 < N) : f10_worlds N S = some (nI (nW T)) := by
  have hT := hG.1
  unfold f10_worlds f10_worlds_b26
  have k := lp_seq (f := fun s : Int32 × Int32 => f10_worlds_L5 N s.1 s.2 S) (fun i => (nI (10 * 9 ^ i), nI i)) (r := nI (nW T)) (N := N) T (fun i hi => ?_) ?_ (by omega)
  · rw [show ((10 : Int32), (0 : Int32)) = (nI (10 * 9 ^ 0), nI 0) from rfl, k, bnp_ok]
  · dsimp only
    unfold f10_worlds_L5
    rw [if_neg (show ¬ ((0 : Int32) < 0 ∨ 2 ≤ (0 : Int32).toNatClampNeg) by decide), lt_ok, c0, h.1, if_neg (nI_ge hi (by omega)), lt_ok, lt_ok, nI_1, show (9 : Int32) = nI 9 from rfl, pk_mul, Nat.pow_succ, Nat.mul_assoc]
  · dsimp only
    unfold f10_worlds_L5
    rw [if_neg (show ¬ ((0 : Int32) < 0 ∨ 2 ≤ (0 : Int32).toNatClampNeg) by decide), lt_ok, c0, h.1, if_pos (nI_le (Nat.le_refl _) (by omega))]
    rfl
theorem M_go {T F : Nat} {b : Bk} {S : Mem} {N c : Nat} (h : MSt T F b S) (hG : GSt T F b) (hc : c < nW T) (hN : 3 < N) : ∃ S', f10_go N (nI c) S = some ((), S') ∧ MW T (ph T c) S' ∧ ∀ q, q ≠ 65 → S' q = S q := by
  have hT := hG.1
  have hn := nW_le hT
  have hd := fun i => ph_dg (i := i) hT hc
  unfold f10_go f10_go_b50
  rw [if_neg (show ¬ (10 : Int32) = 0 by decide), if_neg (show ¬ ((3 : Int32) < 0 ∨ 4 ≤ (3 : Int32).toNatClampNeg) by decide), show (10 : Int32) = nI 10 from rfl, pk_rem (by omega) (by decide) (by decide), pk_div (by omega) (by decide) (by decide), lt_ok, if_neg (show ¬ nI 10 = 0 by decide), lt_ok, c3]
  obtain ⟨S', k1, k2, k3⟩ := lp_inv (f := fun s : Int32 × Int32 × Mem => f10_go_L17 N s.1 s.2.1 s.2.2) (s := (nI (c / 10), (0 : Int32), wr S 65 3 (nI (c % 10)))) (N := N)
    (fun i s => s.1 = nI (c / 10 / 9 ^ i) ∧ s.2.1 = nI i ∧ (∀ q, q ≠ 65 → s.2.2 q = S q) ∧ (s.2.2 65).1 3 = nI (c % 10) ∧ ∀ j, j < i → (s.2.2 65).1 j = nI (dg (ph T c) j))
    (fun S' => (MW T (ph T c) S') ∧ ∀ q, q ≠ 65 → S' q = S q) T
    (by
      rintro i ⟨x, y, U⟩ hi ⟨hx, hy, h1, h2, h3⟩
      dsimp only at hx hy h1 h2 h3 ⊢
      subst hx; subst hy
      refine ⟨(nI (c / 10 / 9 ^ (i + 1)), nI (i + 1), wr U 65 i (nI (dg (ph T c) i))), ?_, rfl, rfl, fun q hq => ?_, ?_, fun j hj => ?_⟩
      · unfold f10_go_L17
        have hdiv : c / 10 / 9 ^ i < 2 ^ 31 := Nat.lt_of_le_of_lt (Nat.div_le_self _ _) (by omega)
        have e59 : U 59 = S 59 := h1 59 (by decide)
        rw [if_neg (show ¬ ((0 : Int32) < 0 ∨ 2 ≤ (0 : Int32).toNatClampNeg) by decide), lt_ok, c0, e59, h.1, if_neg (nI_ge hi (by omega)), if_neg (show ¬ (9 : Int32) = 0 by decide), if_neg (nI_in (by omega) (by decide)), show (9 : Int32) = nI 9 from rfl, pk_rem hdiv (by decide) (by decide), pk_div hdiv (by decide) (by decide), lt_ok, if_neg (show ¬ nI 9 = 0 by decide), lt_ok, lt_ok, nI_1, nI_clamp (by omega), (hd i).2 hi, show (1 : Int32) = nI 1 from rfl, nI_add, Nat.pow_succ, ← Nat.div_div_eq_div_mul]
      · dsimp only
        rw [wr_ne _ _ _ _ hq]; exact h1 q hq
      · dsimp only
        rw [wr_oth (by omega)]; exact h2
      · dsimp only
        by_cases e : j = i
        · rw [e, wr_val]
        · rw [wr_oth e]; exact h3 j (by omega))
    (by
      rintro ⟨x, y, U⟩ ⟨hx, hy, h1, h2, h3⟩
      dsimp only at hx hy h1 h2 h3 ⊢
      subst hx; subst hy
      refine ⟨U, ?_, ⟨h2.trans (by rw [(hd 0).1]), h3⟩, h1⟩
      unfold f10_go_L17
      have e59 : U 59 = S 59 := h1 59 (by decide)
      rw [if_neg (show ¬ ((0 : Int32) < 0 ∨ 2 ≤ (0 : Int32).toNatClampNeg) by decide), lt_ok, c0, e59, h.1, if_pos (nI_le (Nat.le_refl _) (by omega))])
    (by omega) ⟨by rw [Nat.pow_zero, Nat.div_one], rfl, fun q hq => wr_ne _ _ _ _ hq, wr_val S 65 3 _, fun j hj => absurd hj (Nat.not_lt_zero j)⟩
  rw [k1, bnp_ok]
  exact ⟨S', rfl, k2, k3⟩
theorem ld_sm {T x s : Nat} (hT : T ≤ 3) (hs : s < 2 ^ T) : x % 10 + fb_sm (fun i => bt2 s i * dg x i) T = ld x s := by
  have hz : ∀ i, T ≤ i → bt2 s i = 0 := fun i hi => by
    unfold bt2
    rw [Nat.div_eq_of_lt (Nat.lt_of_lt_of_le hs (Nat.pow_le_pow_right (by decide) hi))]
  unfold ld
  rcases T3 hT with rfl | rfl | rfl | rfl
  · rw [hz 0 (by decide), hz 1 (by decide), hz 2 (by decide)]
    simp [fb_sm]
  · rw [hz 1 (by decide), hz 2 (by decide)]
    simp [fb_sm, dg]
  · rw [hz 2 (by decide)]
    simp [fb_sm, dg]
    omega
  · simp [fb_sm, dg]
    omega
theorem M_shown {T F : Nat} {b : Bk} {S : Mem} {N x s : Nat} (h : MSt T F b S) (hG : GSt T F b) (hW : MW T x S) (hx : x < 10000) (hs : s < 2 ^ T) (hN : 3 < N) : f10_shownOf N (nI s) S = some (nI (ld x s % F)) := by
  have hT := hG.1
  have hs8 := sx_lt hT hs
  unfold f10_shownOf f10_shownOf_b47
  rw [if_neg (show ¬ ((3 : Int32) < 0 ∨ 4 ≤ (3 : Int32).toNatClampNeg) by decide), lt_ok, c3, hW.1]
  have k := lp_seq (f := fun t : Int32 × Int32 => f10_shownOf_L9 N (nI s) t.1 t.2 S) (fun i => (nI (x % 10 + fb_sm (fun i => bt2 s i * dg x i) i), nI i)) (r := nI (ld x s)) (N := N) T (fun i hi => ?_) ?_ (by omega)
  · have hd3 : dg x 3 = x % 10 := rfl
    rw [show (nI (dg x 3), (0 : Int32)) = (nI (x % 10 + fb_sm (fun i => bt2 s i * dg x i) 0), nI 0) from rfl, k, bnp_ok]
    have := ld_le (s := s) hx
    have hF := hG.2
    rw [if_neg (show ¬ ((0 : Int32) < 0 ∨ 2 ≤ (0 : Int32).toNatClampNeg) by decide), lt_ok, c0, h.2.1, if_neg (show ¬ nI F = 0 from ne_nI (b := 0) (by omega) (by decide) (by omega)), pk_rem (by omega) (by omega) (by omega)]
  · dsimp only
    unfold f10_shownOf_L9 f10_shownOf_b39
    have hb := bt2_lt s i
    rw [if_neg (show ¬ ((0 : Int32) < 0 ∨ 2 ≤ (0 : Int32).toNatClampNeg) by decide), lt_ok, c0, h.1, if_neg (nI_ge hi (by omega)), bit_nI (by omega) (by omega), fb_sm_succ]
    rcases (show bt2 s i = 0 ∨ bt2 s i = 1 by omega) with e | e
    · rw [e, if_neg (show ¬ nI 0 = 1 by decide), lt_ok, lt_ok, nI_1, show (0 : Int32) = nI 0 from rfl, nI_add, Nat.zero_mul]
      rfl
    · rw [e, if_pos (show nI 1 = 1 from rfl), if_neg (nI_in (by omega) (by decide)), lt_ok, lt_ok, lt_ok, nI_1, nI_clamp (by omega), hW.2 i hi, nI_add, Nat.one_mul, Nat.add_assoc]
  · dsimp only
    unfold f10_shownOf_L9
    rw [if_neg (show ¬ ((0 : Int32) < 0 ∨ 2 ≤ (0 : Int32).toNatClampNeg) by decide), lt_ok, c0, h.1, if_pos (nI_le (Nat.le_refl _) (by omega)), ld_sm hT hs]
/-- a laugh as the model tells it -/
def lI (l : Nat) : Int32 := if l = 2 then -9 else nI l
theorem M_laughIn {T F : Nat} {b : Bk} {S : Mem} {N x k : Nat} (h : MSt T F b S) (hG : GSt T F b) (hW : MW T x S) (hx : x < 10000) (hk : k < b.1) (hN : 3 < N) : f10_laughIn N (nI k) S = some (lI (lgh F (b.2 k) x)) := by
  obtain ⟨hT, hF2, hF20, hb12, hb⟩ := hG
  obtain ⟨b1, b2, b3⟩ := hb k hk
  obtain ⟨-, hm⟩ := h.2.2
  obtain ⟨m1, m2, m3⟩ := hm k hk
  rw [Nat.mul_zero, Nat.zero_add] at m1 m2 m3
  have hlt : ld x (b.2 k).1 % F < F := Nat.mod_lt _ (by omega)
  have e0 : (3 : Int32) * nI k = nI (3 * k) := pk_mul 3 k
  have em : (ld x (b.2 k).1 % F + 1) % F = (ld x (b.2 k).1 + 1) % F := by rw [Nat.mod_add_mod]
  have hlt2 : (ld x (b.2 k).1 + 1) % F < F := Nat.mod_lt _ (by omega)
  have hA : ¬ (nI (3 * k) < 0 ∨ 108 ≤ 3 * k) := fun z => z.elim (fun z => nI_pos (by omega) z) (fun z => by omega)
  have hBb : ¬ (nI (3 * k + 1) < 0 ∨ 108 ≤ 3 * k + 1) := fun z => z.elim (fun z => nI_pos (by omega) z) (fun z => by omega)
  have hC : ¬ (nI (3 * k + 2) < 0 ∨ 108 ≤ 3 * k + 2) := fun z => z.elim (fun z => nI_pos (by omega) z) (fun z => by omega)
  have hF0 : ¬ nI F = 0 := ne_nI (b := 0) (by omega) (by decide) (by omega)
  have h0 : ¬ ((0 : Int32) < 0 ∨ 2 ≤ (0 : Int32).toNatClampNeg) := by decide
  have hs := M_shown (N := N) h ⟨hT, hF2, hF20, hb12, hb⟩ hW hx b1 hN
  have hr : nI (ld x (b.2 k).1 % F + 1) - nI (ld x (b.2 k).1 % F + 1) / nI F * nI F = nI ((ld x (b.2 k).1 + 1) % F) := by rw [pk_rem (by omega) (by omega) (by omega), em]
  unfold f10_laughIn f10_laughIn_b60 f10_laughIn_b89
  rw [e0, show nI (3 * k) + 1 = nI (3 * k + 1) from nI_1 _, show nI (3 * k) + 2 = nI (3 * k + 2) from nI_add _ 2, nI_clamp (show 3 * k < 2 ^ 31 by omega), nI_clamp (show 3 * k + 1 < 2 ^ 31 by omega), nI_clamp (show 3 * k + 2 < 2 ^ 31 by omega), if_neg hA, lt_ok, m1, hs, bnp_ok]
  simp only [if_neg hBb, if_neg hC, if_neg h0, lt_ok, c0, m2, m3, h.2.1, if_neg hF0, nI_1, hr]
  unfold lgh lgl
  generalize ld x (b.2 k).1 % F = r at *
  generalize (ld x (b.2 k).1 + 1) % F = r2 at *
  generalize (b.2 k).2.1 = w at *
  generalize (b.2 k).2.2 = u at *
  have q1 : (nI r = nI w) = (r = w) := propext (nI_eq (by omega) (by omega))
  have q2 : (nI r2 = nI w) = (r2 = w) := propext (nI_eq (by omega) (by omega))
  simp only [q1, q2]
  rcases (show u = 0 ∨ u = 1 ∨ u = 2 by omega) with rfl | rfl | rfl
  · by_cases g1 : r = w
    · simp only [g1, if_true]; rfl
    · by_cases g2 : r2 = w
      · simp only [g1, g2, if_true, if_false]; rfl
      · simp only [g1, g2, if_false]; rfl
  · by_cases g1 : r = w
    · simp only [g1, if_true]; rfl
    · by_cases g2 : r2 = w
      · simp only [g1, g2, if_true, if_false]; rfl
      · simp only [g1, g2, if_false]; rfl
  · by_cases g1 : r = w
    · simp only [g1, if_true]; rfl
    · by_cases g2 : r2 = w
      · simp only [g1, g2, if_true, if_false]; rfl
      · simp only [g1, g2, if_false]; rfl
theorem lI_9 {l : Nat} (h : l < 3) : (lI l = -9) = (l = 2) := by
  rcases (show l = 0 ∨ l = 1 ∨ l = 2 by omega) with rfl | rfl | rfl <;> decide
theorem M_false {T F : Nat} {b : Bk} {S : Mem} {N x : Nat} (h : MSt T F b S) (hG : GSt T F b) (hW : MW T x S) (hx : x < 10000) (hN : 12 < N) : f10_falseLines N S = some (nI (mis F b x)) := by
  have hb := hG.2.2.2.1
  unfold f10_falseLines f10_falseLines_b40
  have k := lp_seq (f := fun s : Int32 × Int32 => f10_falseLines_L4 N s.1 s.2 S) (fun i => (nI (bsum (fun k => decide (lgh F (b.2 k) x = 2)) i), nI i)) (r := nI (mis F b x)) (N := N) b.1 (fun i hi => ?_) ?_ (by omega)
  · rw [show ((0 : Int32), (0 : Int32)) = (nI (bsum (fun k => decide (lgh F (b.2 k) x = 2)) 0), nI 0) from rfl, k, bnp_ok]
  · dsimp only
    unfold f10_falseLines_L4 f10_falseLines_b32
    rw [if_neg (show ¬ ((0 : Int32) < 0 ∨ 3 ≤ (0 : Int32).toNatClampNeg) by decide), lt_ok, c0, h.2.2.1, if_neg (nI_ge hi (by omega)), M_laughIn h hG hW hx hi (by omega), bnp_ok, bsum_succ, nI_1]
    have hl := lgl_lt F (b.2 i).2.1 (b.2 i).2.2 (ld x (b.2 i).1)
    have h9 : (lI (lgh F (b.2 i) x) = -9) = (lgh F (b.2 i) x = 2) := lI_9 hl
    by_cases e : lgh F (b.2 i) x = 2
    · rw [if_pos (h9.mpr e), if_pos (decide_eq_true e), lt_ok, lt_ok, shl_nI (by omega), fa_or]
    · rw [if_neg (fun z => e (h9.mp z)), if_neg (fun z => e (of_decide_eq_true z)), lt_ok, lt_ok, show (0 : Int32) = nI 0 from rfl, fa_or]
  · dsimp only
    unfold f10_falseLines_L4
    rw [if_neg (show ¬ ((0 : Int32) < 0 ∨ 3 ≤ (0 : Int32).toNatClampNeg) by decide), lt_ok, c0, h.2.2.1, if_pos (nI_le (Nat.le_refl _) (by omega))]
    rfl
theorem MW_65 {T x : Nat} {S S' : Mem} (h : MW T x S) (e : S' 65 = S 65) : MW T x S' := by
  unfold MW
  rw [e]; exact h
theorem M_canBe {T F : Nat} {b : Bk} {S : Mem} {N c : Nat} (h : MSt T F b S) (hG : GSt T F b) (hc : c < nW T) (hN : 12 < N) : ∃ S', f10_canBe N (nI c) S = some (if mis F b (ph T c) = 0 then 1 else 0, S') ∧ MW T (ph T c) S' ∧ ∀ q, q ≠ 65 → S' q = S q := by
  obtain ⟨S', a1, a2, a3⟩ := M_go h hG hc (show 3 < N by omega)
  refine ⟨S', ?_, a2, a3⟩
  have hm := mis_lt (F := F) (x := ph T c) hG.2.2.2.1
  unfold f10_canBe
  rw [a1, bnd_ok, M_false (MSt_fw h (FW_65 a3)) hG a2 (ph_ps hG.1 hc).1 hN, bnp_ok]
  by_cases e : mis F b (ph T c) = 0
  · rw [if_pos e, if_pos (by rw [e]; rfl)]
  · rw [if_neg e, if_neg (show ¬ nI (mis F b (ph T c)) = 0 from ne_nI (b := 0) (by omega) (by decide) e)]
theorem lf_ph {T F : Nat} {b : Bk} {c : Nat} (hT : T ≤ 3) (hc : c < nW T) : (lf T F b (ph T c) = true) = (mis F b (ph T c) = 0) := by
  unfold lf
  rw [(ph_ps hT hc).2.1, Bool.true_and, decide_eq_true_eq]
