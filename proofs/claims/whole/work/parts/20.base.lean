/-! THE PURE PART: rules -/
theorem bnp_ok {α γ : Type} (a : α) (k : α → Option γ) : bnp (some a) k = k a := rfl
theorem bnd_ok {α β γ : Type} (a : α) (b : β) (k : α → β → Option γ) : bnd (some (a, b)) k = k a b := rfl
theorem lt_ok {α β : Type} (a : α) (k : α → β) : lt_ a k = k a := rfl
theorem lp_invE {σ ρ : Type} {f : σ → Option (σ ⊕ ρ)} (I : Nat → σ → Prop) (P : ρ → Prop) (m : Nat)
    (hs : ∀ i s, i < m → I i s → (∃ t, f s = some (.inl t) ∧ I (i + 1) t) ∨ (∃ r, f s = some (.inr r) ∧ P r))
    (he : ∀ s, I m s → ∃ r, f s = some (.inr r) ∧ P r) : ∀ (N i : Nat) (s : σ), i ≤ m → m < N + i → I i s → ∃ r, lp N f s = some r ∧ P r := by
  intro N
  induction N with
  | zero => intro i s h1 h2; omega
  | succ N ih =>
    intro i s h1 h2 hI
    unfold lp
    rcases Nat.lt_or_ge i m with h | h
    · rcases hs i s h hI with ⟨t, e, ht⟩ | ⟨r, e, hr⟩
      · rw [e]
        exact ih (i + 1) t h (by omega) ht
      · rw [e]
        exact ⟨r, rfl, hr⟩
    · have e : i = m := by omega
      subst e
      obtain ⟨r, e, hr⟩ := he s hI
      rw [e]
      exact ⟨r, rfl, hr⟩
theorem lp_inv {σ ρ : Type} {f : σ → Option (σ ⊕ ρ)} (I : Nat → σ → Prop) (P : ρ → Prop) (m : Nat)
    (hs : ∀ i s, i < m → I i s → ∃ t, f s = some (.inl t) ∧ I (i + 1) t)
    (he : ∀ s, I m s → ∃ r, f s = some (.inr r) ∧ P r) {N : Nat} {s : σ} (hN : m < N) (h0 : I 0 s) : ∃ r, lp N f s = some r ∧ P r :=
  lp_invE I P m (fun i s h hI => Or.inl (hs i s h hI)) he N 0 s (Nat.zero_le _) (by omega) h0
theorem lp_invE0 {σ ρ : Type} {f : σ → Option (σ ⊕ ρ)} (I : Nat → σ → Prop) (P : ρ → Prop) (m : Nat)
    (hs : ∀ i s, i < m → I i s → (∃ t, f s = some (.inl t) ∧ I (i + 1) t) ∨ (∃ r, f s = some (.inr r) ∧ P r))
    (he : ∀ s, I m s → ∃ r, f s = some (.inr r) ∧ P r) {N : Nat} {s : σ} (hN : m < N) (h0 : I 0 s) : ∃ r, lp N f s = some r ∧ P r :=
  lp_invE I P m hs he N 0 s (Nat.zero_le _) (by omega) h0
theorem lp_seq {σ ρ : Type} {f : σ → Option (σ ⊕ ρ)} (g : Nat → σ) {r : ρ} (m : Nat) (hs : ∀ i, i < m → f (g i) = some (.inl (g (i + 1)))) (he : f (g m) = some (.inr r)) {N : Nat} (hN : m < N) : lp N f (g 0) = some r := by
  obtain ⟨q, h1, h2⟩ := lp_inv (f := f) (fun i s => s = g i) (fun q => q = r) m (fun i s h hI => ⟨g (i + 1), by rw [hI]; exact hs i h, rfl⟩) (fun s hI => ⟨r, by rw [hI]; exact he, rfl⟩) hN (s := g 0) rfl
  rw [h1, h2]
/-- literals -/
theorem l0 : (0 : Int32) = nI 0 := rfl
theorem l1 : (1 : Int32) = nI 1 := rfl
theorem l2 : (2 : Int32) = nI 2 := rfl
theorem l3 : (3 : Int32) = nI 3 := rfl
theorem l4 : (4 : Int32) = nI 4 := rfl
theorem l5 : (5 : Int32) = nI 5 := rfl
theorem l7 : (7 : Int32) = nI 7 := rfl
theorem l8 : (8 : Int32) = nI 8 := rfl
theorem l9 : (9 : Int32) = nI 9 := rfl
theorem l10 : (10 : Int32) = nI 10 := rfl
theorem l12 : (12 : Int32) = nI 12 := rfl
theorem l13 : (13 : Int32) = nI 13 := rfl
theorem l20 : (20 : Int32) = nI 20 := rfl
theorem l27 : (27 : Int32) = nI 27 := rfl
theorem l31 : (31 : Int32) = nI 31 := rfl
theorem l32 : (32 : Int32) = nI 32 := rfl
theorem l36 : (36 : Int32) = nI 36 := rfl
theorem l37 : (37 : Int32) = nI 37 := rfl
theorem l96 : (96 : Int32) = nI 96 := rfl
theorem l99 : (99 : Int32) = nI 99 := rfl
theorem l100 : (100 : Int32) = nI 100 := rfl
theorem l200 : (200 : Int32) = nI 200 := rfl
theorem l255 : (255 : Int32) = nI 255 := rfl
theorem l400 : (400 : Int32) = nI 400 := rfl
theorem l1000 : (1000 : Int32) = nI 1000 := rfl
theorem l4095 : (4095 : Int32) = nI 4095 := rfl
theorem l10000 : (10000 : Int32) = nI 10000 := rfl
theorem wr_ap (S : Mem) (k j : Nat) (x : Int32) (a : Nat) : wr S k j x a = if a = k then (upd (S k).1 j x, (S k).2) else S a := by
  by_cases h : a = k
  · subst h; rw [wr_at, if_pos rfl]
  · rw [wr_ne S k j x h, if_neg h]
theorem wrL_ap (S : Mem) (k : Nat) (x : Int64) (a : Nat) : wrL S k x a = if a = k then ((S k).1, x) else S a := by
  by_cases h : a = k
  · subst h; rw [wrL_at, if_pos rfl]
  · rw [wrL_ne S k x h, if_neg h]
theorem upd_ap (f : Nat → Int32) (k : Nat) (x : Int32) (j : Nat) : upd f k x j = if j = k then x else f j := rfl
/-- a number between two -/
def btw (i lo hi : Int32) : Int32 := if i < lo then 0 else if hi < i then 0 else 1
theorem btw_01 (i lo hi : Int32) : btw i lo hi = 0 ∨ btw i lo hi = 1 := by
  unfold btw
  split
  · exact Or.inl rfl
  · split
    · exact Or.inl rfl
    · exact Or.inr rfl
theorem btw_yes {i lo hi : Int32} (h : ¬ btw i lo hi = 0) : ¬ i < lo ∧ ¬ hi < i := by
  unfold btw at h
  by_cases h1 : i < lo
  · rw [if_pos h1] at h; exact absurd rfl h
  · rw [if_neg h1] at h
    by_cases h2 : hi < i
    · rw [if_pos h2] at h; exact absurd rfl h
    · exact ⟨h1, h2⟩
theorem fX_btw (N : Nat) (i lo hi : Int32) (S : Mem) : f9_isBetween N i lo hi S = some (btw i lo hi) := by
  unfold f9_isBetween btw
  split
  · rfl
  · split <;> rfl
theorem fM_btw (N : Nat) (i lo hi : Int32) (S : Mem) : f10_in N i lo hi S = some (btw i lo hi) := by
  unfold f10_in btw
  split
  · rfl
  · split <;> rfl
/-- below a count -/
theorem btw_cnt {i : Int32} {T : Nat} (hT : T < 1000) : (∃ j, j < T ∧ i = nI j ∧ btw i 0 (nI T - 1) = 1) ∨ ((∀ j, j < T → i ≠ nI j) ∧ btw i 0 (nI T - 1) = 0) := by
  have e0 : (0 : Int32).toInt = 0 := by decide
  have e1 : (1 : Int32).toInt = 1 := by decide
  have eT : (nI T - 1).toInt = (T : Int) - 1 := by
    rw [fb_subI] <;> rw [nI_toInt (by omega), e1] <;> omega
  unfold btw
  simp only [fa_lt, e0, eT]
  by_cases h1 : i.toInt < 0
  · refine Or.inr ⟨fun j hj e => ?_, by rw [if_pos h1]⟩
    rw [e, nI_toInt (by omega)] at h1; omega
  · by_cases h2 : (T : Int) - 1 < i.toInt
    · refine Or.inr ⟨fun j hj e => ?_, by rw [if_neg h1, if_pos h2]⟩
      rw [e, nI_toInt (by omega)] at h2; omega
    · obtain ⟨j, hj, e⟩ := nI_of (x := i) (by rw [fa_lt, e0]; exact h1)
      subst e
      rw [nI_toInt hj] at h1 h2 ⊢
      exact Or.inl ⟨j, by omega, rfl, by rw [if_neg h1, if_neg h2]⟩
/-- between two small numbers -/
theorem btw_lit {i : Int32} {a b : Nat} (ha : a < 1000) (hb : b < 1000) : (∃ j, a ≤ j ∧ j ≤ b ∧ i = nI j ∧ btw i (nI a) (nI b) = 1) ∨ ((∀ j, a ≤ j → j ≤ b → i ≠ nI j) ∧ btw i (nI a) (nI b) = 0) := by
  unfold btw
  simp only [fa_lt, nI_toInt (n := a) (show a < 2 ^ 31 by omega), nI_toInt (n := b) (show b < 2 ^ 31 by omega)]
  by_cases h1 : i.toInt < a
  · refine Or.inr ⟨fun j hj _ e => ?_, by rw [if_pos h1]⟩
    rw [e] at h1
    by_cases h : j < 2 ^ 31
    · rw [nI_toInt h] at h1; omega
    · omega
  · by_cases h2 : (b : Int) < i.toInt
    · refine Or.inr ⟨fun j _ hj e => ?_, by rw [if_neg h1, if_pos h2]⟩
      rw [e, nI_toInt (by omega)] at h2; omega
    · obtain ⟨j, hj, e⟩ := nI_of (x := i) (by rw [fa_lt, show (0 : Int32).toInt = 0 by decide]; omega)
      subst e
      rw [nI_toInt hj] at h1 h2 ⊢
      exact Or.inl ⟨j, by omega, by omega, rfl, by rw [if_neg h1, if_neg h2]⟩
/-- places of arrays -/
theorem in_no {j n : Nat} (h : j < n) (hn : n < 2 ^ 31) : ¬ (nI j < 0 ∨ n ≤ (nI j).toNatClampNeg) := nI_in h hn
theorem in_no0 {n : Nat} (h : 0 < n) : ¬ ((0 : Int32) < 0 ∨ n ≤ (0 : Int32).toNatClampNeg) := by
  intro q
  rcases q with q | q
  · exact absurd q (by decide)
  · rw [show (0 : Int32).toNatClampNeg = 0 by decide] at q; omega
theorem c0 : (0 : Int32).toNatClampNeg = 0 := by decide
theorem c1 : (1 : Int32).toNatClampNeg = 1 := by decide
theorem c2 : (2 : Int32).toNatClampNeg = 2 := by decide
theorem c3 : (3 : Int32).toNatClampNeg = 3 := by decide
/-- a row's place -/
theorem f5_get_in {N k n j : Nat} {S : Mem} (h : j < n) (hn : n < 2 ^ 31) : f5_get N k n (nI j) S = some ((S (k + 1)).1 j) := by
  unfold f5_get
  rw [if_neg (nI_pos (by omega)), if_neg (nI_ge h hn), if_neg (nI_in h hn), lt_ok, nI_clamp (by omega)]
theorem f5_get_out {N k n j : Nat} {S : Mem} (h : n ≤ j) (hn : j < 2 ^ 31) : f5_get N k n (nI j) S = some 0 := by
  unfold f5_get
  rw [if_neg (nI_pos (by omega)), if_pos (nI_le h hn)]
theorem f5_put_in {N k n j : Nat} {x : Int32} {S : Mem} (h : j < n) (hn : n < 2 ^ 31) : f5_put N k n (nI j) x S = some ((), wr S (k + 1) j x) := by
  unfold f5_put
  rw [if_neg (nI_pos (by omega)), if_neg (nI_ge h hn), if_neg (nI_in h hn), lt_ok, nI_clamp (by omega)]
theorem f5_add_in {N k n j : Nat} {x : Int32} {S : Mem} (h : j < n) (hn : n < 2 ^ 31) : f5_add N k n (nI j) x S = some ((), wr S (k + 1) j ((S (k + 1)).1 j + x)) := by
  unfold f5_add
  rw [if_neg (nI_pos (by omega)), if_neg (nI_ge h hn), if_neg (nI_in h hn), lt_ok, if_neg (nI_in h hn), lt_ok, nI_clamp (by omega)]
theorem f5_join_in {N k n j : Nat} {x : Int32} {S : Mem} (h : j < n) (hn : n < 2 ^ 31) : f5_join N k n (nI j) x S = some ((), wr S (k + 1) j ((S (k + 1)).1 j ||| x)) := by
  unfold f5_join
  rw [if_neg (nI_pos (by omega)), if_neg (nI_ge h hn), if_neg (nI_in h hn), lt_ok, if_neg (nI_in h hn), lt_ok, nI_clamp (by omega)]
/-- a row wiped: zeroes below n, all else stays -/
theorem f5_wipe_ok {N k n : Nat} {S : Mem} (hn : n < 2 ^ 31) (hN : n < N) : ∃ S', f5_wipe N k n S = some ((), S') ∧ (∀ a, a ≠ k + 1 → S' a = S a) ∧ ∀ j, j < n → (S' (k + 1)).1 j = 0 := by
  unfold f5_wipe
  obtain ⟨r, h1, h2, h3⟩ := lp_inv (f := fun s : Int32 × Mem => f5_wipe_L2 N k n s.1 s.2) (s := ((0 : Int32), S)) (N := N)
    (fun i s => s.1 = nI i ∧ (∀ a, a ≠ k + 1 → s.2 a = S a) ∧ ∀ j, j < i → (s.2 (k + 1)).1 j = 0)
    (fun S' => (∀ a, a ≠ k + 1 → S' a = S a) ∧ ∀ j, j < n → (S' (k + 1)).1 j = 0) n
    (by
      rintro i ⟨x, T⟩ hi ⟨hx, h1, h2⟩
      dsimp only at hx h1 h2 ⊢
      subst hx
      refine ⟨(nI (i + 1), wr T (k + 1) i 0), ?_, rfl, ?_, ?_⟩
      · unfold f5_wipe_L2
        rw [if_neg (nI_ge hi hn), if_neg (nI_in hi hn), lt_ok, lt_ok, nI_1, nI_clamp (by omega)]
      · intro a ha
        dsimp only
        rw [wr_ap, if_neg ha, h1 a ha]
      · intro j hj
        dsimp only
        rw [wr_ap, if_pos rfl]
        show upd _ i 0 j = 0
        rw [upd_ap]
        split
        · rfl
        · exact h2 j (by omega))
    (by
      rintro ⟨x, T⟩ ⟨hx, h1, h2⟩
      dsimp only at hx h1 h2 ⊢
      subst hx
      refine ⟨T, ?_, h1, h2⟩
      unfold f5_wipe_L2
      rw [if_pos (nI_le (Nat.le_refl _) hn)])
    hN ⟨rfl, fun _ _ => rfl, fun j hj => by omega⟩
  rw [h1, bnp_ok]
  exact ⟨r, rfl, h2, h3⟩
/-- a row copied -/
theorem f5_copy_ok {N k n k2 : Nat} {S : Mem} (hk : k2 + 1 ≠ k + 1) (hn : n < 2 ^ 31) (hN : n < N) : ∃ S', f5_copyFrom N k n k2 n S = some ((), S') ∧ (∀ a, a ≠ k + 1 → S' a = S a) ∧ ∀ j, j < n → (S' (k + 1)).1 j = (S (k2 + 1)).1 j := by
  unfold f5_copyFrom
  obtain ⟨r, h1, h2, h3⟩ := lp_inv (f := fun s : Int32 × Mem => f5_copyFrom_L2 N k n k2 n s.1 s.2) (s := ((0 : Int32), S)) (N := N)
    (fun i s => s.1 = nI i ∧ (∀ a, a ≠ k + 1 → s.2 a = S a) ∧ ∀ j, j < i → (s.2 (k + 1)).1 j = (S (k2 + 1)).1 j)
    (fun S' => (∀ a, a ≠ k + 1 → S' a = S a) ∧ ∀ j, j < n → (S' (k + 1)).1 j = (S (k2 + 1)).1 j) n
    (by
      rintro i ⟨x, T⟩ hi ⟨hx, h1, h2⟩
      dsimp only at hx h1 h2 ⊢
      subst hx
      refine ⟨(nI (i + 1), wr T (k + 1) i ((T (k2 + 1)).1 i)), ?_, rfl, ?_, ?_⟩
      · unfold f5_copyFrom_L2
        rw [if_neg (nI_ge hi hn), f5_get_in hi hn, bnp_ok, if_neg (nI_in hi hn), lt_ok, lt_ok, nI_1, nI_clamp (by omega)]
      · intro a ha
        dsimp only
        rw [wr_ap, if_neg ha, h1 a ha]
      · intro j hj
        dsimp only
        rw [wr_ap, if_pos rfl]
        show upd _ i _ j = _
        rw [upd_ap]
        split
        · rename_i e; rw [e, h1 _ hk]
        · exact h2 j (by omega))
    (by
      rintro ⟨x, T⟩ ⟨hx, h1, h2⟩
      dsimp only at hx h1 h2 ⊢
      subst hx
      refine ⟨T, ?_, h1, h2⟩
      unfold f5_copyFrom_L2
      rw [if_pos (nI_le (Nat.le_refl _) hn)])
    hN ⟨rfl, fun _ _ => rfl, fun j hj => by omega⟩
  rw [h1, bnp_ok]
  exact ⟨r, rfl, h2, h3⟩
/-- small facts for simp -/
theorem nI_neg {n : Nat} (h : n < 2 ^ 31) : (nI n < 0) = False := eq_false (nI_pos h)
theorem lt_t {a b : Nat} (h : a < b) : (a < b) = True := eq_true h
theorem lt_f {a b : Nat} (h : b ≤ a) : (a < b) = False := eq_false (Nat.not_lt.mpr h)
theorem le_t {a b : Nat} (h : a ≤ b) : (a ≤ b) = True := eq_true h
theorem le_f {a b : Nat} (h : b < a) : (a ≤ b) = False := eq_false (Nat.not_le.mpr h)
theorem eq_t {a b : Nat} (h : a = b) : (a = b) = True := eq_true h
theorem eq_f {a b : Nat} (h : a ≠ b) : (a = b) = False := eq_false h
theorem z0 : ((0 : Int32) < 0) = False := by decide
theorem o0 : ((1 : Int32) = 0) = False := by decide
theorem o1 : ((0 : Int32) = 1) = False := by decide
