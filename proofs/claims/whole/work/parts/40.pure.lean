/-! THE LAW'S LOOP -/
def Iv (a : Ab) (S : Mem) : Prop := GA a ∧ XA a S ∧ MA a S ∧ XCA a S
theorem Iv_nxt {a a' : Ab} {S S2 : Mem} (h : Iv a S) (hn : Nxt a a' S S2) : Iv a' S2 := by
  obtain ⟨h1, h2, h3, h4⟩ := hn
  refine ⟨h1, h2, h3, ?_⟩
  rcases h4 with h4 | ⟨e1, e2, e3⟩
  · exact Or.inl h4
  · unfold XCA
    rw [e1, e2]
    have hc := h.2.2.2
    rcases hc with h7 | h7
    · exact Or.inl (by rw [e3 39 (by decide)]; exact h7)
    · exact Or.inr (TB_eq h7 (fun q hq => e3 q (by revert q; decide)))
theorem Iv_kp {a : Ab} {S S2 : Mem} (h : Iv a S) (hn : Kp a S2) : Iv a S2 := ⟨h.1, hn⟩
def Gl (i : Nat) (e : Option ((Int32 × Mem) ⊕ ((Int32 × Mem) ⊕ Mem))) : Prop := ∃ S' a, e = some (.inl (nI (5 * (i + 1)), S')) ∧ Iv a S'
theorem Gl_ite {i : Nat} {c : Prop} {d : Decidable c} {A B : Option ((Int32 × Mem) ⊕ ((Int32 × Mem) ⊕ Mem))} (h1 : Gl i A) (h2 : Gl i B) : Gl i (@ite _ c d A B) := by
  by_cases h : c
  · rw [if_pos h]; exact h1
  · rw [if_neg h]; exact h2
theorem Gl_go {N i L : Nat} {xs : Nat → Int32} {a : Ab} {S : Mem} (h : Iv a S) : Gl i (fL_law_b744 N xs L (nI (5 * i)) S) := by
  unfold fL_law_b744
  rw [lt_ok, show nI (5 * i) + (5 : Int32) = nI (5 * (i + 1)) from nI_add _ 5]
  exact ⟨S, a, rfl, h⟩
theorem lgs (x : Int64) : lg_cmp x x = 0 := by
  rw [lg_cmp_eq]
set_option maxHeartbeats 4000000 in
theorem law_step {N i L : Nat} {xs : Nat → Int32} {a : Ab} {S : Mem} (hN : 10002 < N) (hL : L ≤ 320) (hi : 5 * i + 5 ≤ L) (h : Iv a S) : Gl i (fL_law_L18 N xs L (nI (5 * i)) S) := by
  have h' := h
  obtain ⟨hG, hX, hM, hC⟩ := h'
  have r0 : ¬ (nI (5 * i) < 0 ∨ L ≤ (nI (5 * i)).toNatClampNeg) := nI_in (by omega) (by omega)
  have r1 : ¬ (nI (5 * i) + (1 : Int32) < 0 ∨ L ≤ (nI (5 * i) + (1 : Int32)).toNatClampNeg) := by
    rw [nI_1]
    exact nI_in (by omega) (by omega)
  have r2 : ¬ (nI (5 * i) + (2 : Int32) < 0 ∨ L ≤ (nI (5 * i) + (2 : Int32)).toNatClampNeg) := by
    rw [show nI (5 * i) + (2 : Int32) = nI (5 * i + 2) from nI_add _ 2]
    exact nI_in (by omega) (by omega)
  have r3 : ¬ (nI (5 * i) + (3 : Int32) < 0 ∨ L ≤ (nI (5 * i) + (3 : Int32)).toNatClampNeg) := by
    rw [show nI (5 * i) + (3 : Int32) = nI (5 * i + 3) from nI_add _ 3]
    exact nI_in (by omega) (by omega)
  have r4 : ¬ (nI (5 * i) + (4 : Int32) < 0 ∨ L ≤ (nI (5 * i) + (4 : Int32)).toNatClampNeg) := by
    rw [show nI (5 * i) + (4 : Int32) = nI (5 * i + 4) from nI_add _ 4]
    exact nI_in (by omega) (by omega)
  have rx : ¬ nI L - (5 : Int32) < nI (5 * i) := by
    rw [fa_lt, show nI L - (5 : Int32) = nI L - nI 5 from rfl, pk_sub_toInt (by omega) (by decide), nI_toInt (by omega)]
    omega
  unfold fL_law_L18
  rw [if_neg rx, if_neg r0, lt_ok]
  refine Gl_ite ?_ (Gl_ite ?_ (Gl_ite ?_ (Gl_ite ?_ (Gl_ite ?_ (Gl_ite ?_ (Gl_ite ?_ (Gl_ite ?_ (Gl_ite ?_ (Gl_ite ?_ (Gl_ite ?_ (Gl_ite ?_ (Gl_ite ?_ (Gl_ite ?_ (Gl_ite ?_ (Gl_ite ?_ (Gl_ite ?_ (Gl_ite ?_ (Gl_ite ?_ (Gl_ite ?_ (Gl_ite ?_ (Gl_ite ?_ (Gl_go h))))))))))))))))))))))
  · obtain ⟨r, S1, S2, a', e1, e2, e3⟩ := op_type (N := N) (S := S) (by omega) hG hX hM (((xs (nI (5 * i) + (1 : Int32)).toNatClampNeg).toInt64 <<< ((32 : Int32).toInt64 &&& 63)) ||| ((xs (nI (5 * i) + (2 : Int32)).toNatClampNeg).toInt64 &&& (4294967295 : Int64))) (xs (nI (5 * i) + (3 : Int32)).toNatClampNeg)
    rw [if_neg r1, lt_ok, if_neg r2, lt_ok, if_neg r3, lt_ok, e1, bnd_ok, if_neg r1, lt_ok, if_neg r2, lt_ok, if_neg r3, lt_ok, e2, bnd_ok, if_pos rfl]
    exact Gl_go (Iv_nxt h e3)
  · obtain ⟨r, S1, S2, a', e1, e2, e3⟩ := op_clear (N := N) (S := S) hG hX hM 
    rw [e1, bnd_ok, e2, bnd_ok, if_pos rfl]
    exact Gl_go (Iv_nxt h e3)
  · obtain ⟨r, S1, S2, a', e1, e2, e3⟩ := op_market (N := N) (S := S) (by omega) hG hX hM 
    rw [e1, bnd_ok, e2, bnd_ok, if_pos rfl]
    exact Gl_go (Iv_nxt h e3)
  · obtain ⟨r, e1, e2⟩ := op_thing (N := N) (S := S) hG hX hM (xs (nI (5 * i) + (1 : Int32)).toNatClampNeg)
    rw [if_neg r1, lt_ok, e1, bnp_ok, if_neg r1, lt_ok, e2, bnp_ok, if_pos rfl]
    exact Gl_go h
  · obtain ⟨r, S1, S2, a', e1, e2, e3⟩ := op_weigh (N := N) (S := S) (by omega) hG hX hM (xs (nI (5 * i) + (1 : Int32)).toNatClampNeg) (xs (nI (5 * i) + (2 : Int32)).toNatClampNeg) (xs (nI (5 * i) + (3 : Int32)).toNatClampNeg)
    rw [if_neg r1, lt_ok, if_neg r2, lt_ok, if_neg r3, lt_ok, e1, bnd_ok, if_neg r1, lt_ok, if_neg r2, lt_ok, if_neg r3, lt_ok, e2, bnd_ok, if_pos rfl]
    exact Gl_go (Iv_nxt h e3)
  · obtain ⟨r, S1, S2, a', e1, e2, e3⟩ := op_tell (N := N) (S := S) hG hX hM (xs (nI (5 * i) + (1 : Int32)).toNatClampNeg) (xs (nI (5 * i) + (2 : Int32)).toNatClampNeg) (xs (nI (5 * i) + (3 : Int32)).toNatClampNeg)
    rw [if_neg r1, lt_ok, if_neg r2, lt_ok, if_neg r3, lt_ok, e1, bnd_ok, if_neg r1, lt_ok, if_neg r2, lt_ok, if_neg r3, lt_ok, e2, bnd_ok, if_pos rfl]
    exact Gl_go (Iv_nxt h e3)
  · obtain ⟨r, e1, e2⟩ := op_line (N := N) (S := S) hG hX hM (xs (nI (5 * i) + (1 : Int32)).toNatClampNeg) (xs (nI (5 * i) + (2 : Int32)).toNatClampNeg)
    rw [if_neg r1, lt_ok, if_neg r2, lt_ok, e1, bnp_ok, if_neg r1, lt_ok, if_neg r2, lt_ok, e2, bnp_ok, if_pos rfl]
    exact Gl_go h
  · obtain ⟨r, S1, S2, a', e1, e2, e3⟩ := op_undo (N := N) (S := S) hG hX hM 
    rw [e1, bnd_ok, e2, bnd_ok, if_pos rfl]
    exact Gl_go (Iv_nxt h e3)
  · obtain ⟨r, S1, S2, e1, e2, e3⟩ := op_could (N := N) (S := S) (by omega) hG hX hM hC (xs (nI (5 * i) + (1 : Int32)).toNatClampNeg) (xs (nI (5 * i) + (2 : Int32)).toNatClampNeg)
    rw [if_neg r1, lt_ok, if_neg r2, lt_ok, e1, bnd_ok, if_neg r1, lt_ok, if_neg r2, lt_ok, e2, bnd_ok, if_pos rfl]
    exact Gl_go (Iv_kp h e3)
  · obtain ⟨r, S1, S2, e1, e2, e3⟩ := op_sure (N := N) (S := S) (by omega) hG hX hM hC (xs (nI (5 * i) + (1 : Int32)).toNatClampNeg)
    rw [if_neg r1, lt_ok, e1, bnd_ok, if_neg r1, lt_ok, e2, bnd_ok, if_pos rfl]
    exact Gl_go (Iv_kp h e3)
  · obtain ⟨r, S1, S2, e1, e2, e3⟩ := op_wrong (N := N) (S := S) (by omega) hG hX hM hC (xs (nI (5 * i) + (1 : Int32)).toNatClampNeg)
    rw [if_neg r1, lt_ok, e1, bnd_ok, if_neg r1, lt_ok, e2, bnd_ok, if_pos rfl]
    exact Gl_go (Iv_kp h e3)
  · obtain ⟨r, S1, S2, e1, e2, e3⟩ := op_next (N := N) (S := S) (by omega) hG hX hM hC (xs (nI (5 * i) + (1 : Int32)).toNatClampNeg)
    rw [if_neg r1, lt_ok, e1, bnd_ok, if_neg r1, lt_ok, e2, bnd_ok, if_pos rfl]
    exact Gl_go (Iv_kp h e3)
  · obtain ⟨r, S1, S2, e1, e2, e3⟩ := op_fewest (N := N) (S := S) (by omega) hG hX hM hC (xs (nI (5 * i) + (1 : Int32)).toNatClampNeg)
    rw [if_neg r1, lt_ok, e1, bnd_ok, if_neg r1, lt_ok, e2, bnd_ok, if_pos rfl]
    exact Gl_go (Iv_kp h e3)
  · obtain ⟨r, S1, S2, e1, e2, e3⟩ := op_laugh (N := N) (S := S) (by omega) hG hX hM hC (xs (nI (5 * i) + (1 : Int32)).toNatClampNeg)
    rw [if_neg r1, lt_ok, e1, bnd_ok, if_neg r1, lt_ok, e2, bnd_ok, if_pos rfl]
    exact Gl_go (Iv_kp h e3)
  · obtain ⟨r, S1, S2, e1, e2, e3⟩ := op_odds (N := N) (S := S) (by omega) hG hX hM hC (xs (nI (5 * i) + (1 : Int32)).toNatClampNeg) (xs (nI (5 * i) + (2 : Int32)).toNatClampNeg) (xs (nI (5 * i) + (3 : Int32)).toNatClampNeg) (xs (nI (5 * i) + (4 : Int32)).toNatClampNeg)
    rw [if_neg r1, lt_ok, if_neg r2, lt_ok, if_neg r3, lt_ok, if_neg r4, lt_ok, e1, bnd_ok, if_neg r1, lt_ok, if_neg r2, lt_ok, if_neg r3, lt_ok, if_neg r4, lt_ok, e2, bnd_ok, if_pos (lgs r)]
    exact Gl_go (Iv_kp h e3)
  · obtain ⟨r, e1, e2⟩ := op_sack (N := N) (S := S) (by omega) hG hX hM (xs (nI (5 * i) + (1 : Int32)).toNatClampNeg) (xs (nI (5 * i) + (2 : Int32)).toNatClampNeg)
    rw [if_neg r1, lt_ok, if_neg r2, lt_ok, e1, bnp_ok, if_neg r1, lt_ok, if_neg r2, lt_ok, e2, bnp_ok, if_pos rfl]
    exact Gl_go h
  · obtain ⟨r, S1, S2, e1, e2, e3⟩ := op_byTurns (N := N) (S := S) (by omega) hG hX hM 
    rw [e1, bnd_ok, e2, bnd_ok, if_pos rfl]
    exact Gl_go (Iv_nxt h e3)
  · obtain ⟨r, S1, S2, a', e1, e2, e3⟩ := op_mark (N := N) (S := S) (by omega) hG hX hM (xs (nI (5 * i) + (1 : Int32)).toNatClampNeg) (xs (nI (5 * i) + (2 : Int32)).toNatClampNeg)
    rw [if_neg r1, lt_ok, if_neg r2, lt_ok, e1, bnd_ok, if_neg r1, lt_ok, if_neg r2, lt_ok, e2, bnd_ok, if_pos rfl]
    exact Gl_go (Iv_nxt h e3)
  · obtain ⟨r, S1, S2, a', e1, e2, e3⟩ := op_keep (N := N) (S := S) (by omega) hG hX hM (xs (nI (5 * i) + (1 : Int32)).toNatClampNeg)
    rw [if_neg r1, lt_ok, e1, bnd_ok, if_neg r1, lt_ok, e2, bnd_ok, if_pos rfl]
    exact Gl_go (Iv_nxt h e3)
  · obtain ⟨r, S1, S2, a', e1, e2, e3⟩ := op_back (N := N) (S := S) (by omega) hG hX hM (xs (nI (5 * i) + (1 : Int32)).toNatClampNeg)
    rw [if_neg r1, lt_ok, e1, bnd_ok, if_neg r1, lt_ok, e2, bnd_ok, if_pos rfl]
    exact Gl_go (Iv_nxt h e3)
  · obtain ⟨r, e1, e2⟩ := op_count (N := N) (S := S) hX hM (xs (nI (5 * i) + (1 : Int32)).toNatClampNeg)
    rw [if_neg r1, lt_ok, e1, bnp_ok, if_neg r1, lt_ok, e2, bnp_ok, if_pos rfl]
    exact Gl_go h
  · obtain ⟨e1, e2⟩ := op_trace (N := N) (S := S) hX hM 
    rw [e1, bnp_ok, e2, bnp_ok, if_pos (lgs _)]
    exact Gl_go h
/-- at first -/
def a0 : Ab := ((0, fun _ => 0), (0, fun _ => 0, 0, 10), (0, fun _ => (0, 0, 0)), (false, (0, fun _ => (0, 0, 0))), (false, (0, fun _ => (0, 0, 0))), 0)
theorem Iv_0 : Iv a0 S0 := by
  refine ⟨⟨⟨by decide, fun j hj => absurd hj (Nat.not_lt_zero j)⟩, ⟨by decide, fun j hj => absurd hj (Nat.not_lt_zero j), by decide, by decide, by decide⟩, ⟨by decide, fun j hj => absurd hj (Nat.not_lt_zero j)⟩, fun z => absurd z (by decide), fun z => absurd z (by decide)⟩, ⟨⟨rfl, fun j hj => absurd hj (Nat.not_lt_zero j)⟩, ⟨rfl, fun j hj => absurd hj (Nat.not_lt_zero j), rfl, rfl⟩, ⟨rfl, fun j hj => absurd hj (Nat.not_lt_zero j)⟩, ⟨rfl, fun z => absurd z (by decide)⟩, ⟨rfl, fun z => absurd z (by decide)⟩, rfl⟩, ⟨⟨rfl, fun j hj => absurd hj (Nat.not_lt_zero j)⟩, ⟨rfl, fun j hj => absurd hj (Nat.not_lt_zero j), rfl, rfl⟩, ⟨rfl, fun j hj => absurd hj (Nat.not_lt_zero j)⟩, ⟨rfl, fun z => absurd z (by decide)⟩, ⟨rfl, fun z => absurd z (by decide)⟩, rfl⟩, Or.inl rfl⟩
theorem pure_law {N L : Nat} {xs : Nat → Int32} (hN : 10002 < N) (hL : L ≤ 320) : ∃ S', fL_law N xs L S0 = some (1, S') := by
  unfold fL_law fL_law_b750
  obtain ⟨r, k1, U, rfl⟩ := lp_inv (f := fun s : Int32 × Mem => fL_law_L18 N xs L s.1 s.2) (s := ((0 : Int32), S0)) (N := N)
    (fun i s => s.1 = nI (5 * i) ∧ ∃ a, Iv a s.2)
    (fun r => ∃ U, r = .inr U) (L / 5)
    (by
      rintro i ⟨x, U⟩ hi ⟨hx, a, ha⟩
      dsimp only at hx ha ⊢
      subst hx
      obtain ⟨S', a', e1, e2⟩ := law_step (N := N) (xs := xs) (i := i) (L := L) hN hL (by omega) ha
      exact ⟨(nI (5 * (i + 1)), S'), e1, rfl, a', e2⟩)
    (by
      rintro ⟨x, U⟩ ⟨hx, a, ha⟩
      dsimp only at hx ha ⊢
      subst hx
      refine ⟨.inr U, ?_, U, rfl⟩
      unfold fL_law_L18
      have rx : nI L - (5 : Int32) < nI (5 * (L / 5)) := by
        rw [fa_lt, show nI L - (5 : Int32) = nI L - nI 5 from rfl, pk_sub_toInt (by omega) (by decide), nI_toInt (by omega)]
        omega
      rw [if_pos rx])
    (by omega) ⟨rfl, a0, Iv_0⟩
  rw [k1, bnp_ok]
  exact ⟨U, rfl⟩
theorem pureLaw : PureLaw := ⟨20000, fun xs L hL => pure_law (by decide) hL⟩
