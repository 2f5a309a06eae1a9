def foM (T F : Nat) (b : Bk) (n : Nat) : Nat × Nat := fo (fun _ => true) (fun c => mis F b (ph T c)) n
theorem foM_all {T F : Nat} {b : Bk} (hT : T ≤ 3) : foM T F b (nW T) = foK T F b 10000 := by
  unfold foM foK
  refine fo_eq (fun c hc _ => ?_) (fun K hK hv => ?_)
  · obtain ⟨h1, h2, h3⟩ := ph_ps hT hc
    obtain ⟨k1, k2⟩ := ky_uk h1
    exact ⟨ky (ph T c), k1, by rw [k2]; exact h2, by rw [k2]⟩
  · obtain ⟨h1, h2⟩ := uk_ky hK
    obtain ⟨k1, k2⟩ := ps_ph hT h1 hv
    exact ⟨ps T (uk K), k1, rfl, by rw [k2]⟩
theorem op_wrong {a : Ab} {S : Mem} {N : Nat} (hN : 10001 < N) (hG : GA a) (hX : XA a S) (hM : MA a S) (hC : XCA a S) (i : Int32) : ∃ r S1 S2, f9_wrong N i S = some (r, S1) ∧ f10_wrong N i S1 = some (r, S2) ∧ Kp a S2 := by
  have hG' := GA_GSt hG
  have hT := hG'.1
  have hnW := nW_le hT
  obtain ⟨S1, l1, l2, l3⟩ := X_learn hG' (XA_XSt hX) hC (by omega : 400 < N)
  have fl := FL_of l3
  have hMs := MA_MSt (MA_fl hM fl)
  have known : f9_known N S = some ((), S1) := by
    unfold f9_known
    rw [l1, bnd_ok]
  have hw := btw_lit (i := i) (a := 0) (b := 1) (by decide) (by decide)
  rw [← l0, show nI 1 = 1 from rfl] at hw
  rcases hw with ⟨w, -, hw1, rfl, hb⟩ | ⟨-, hb⟩
  · obtain ⟨q, k1, k2, k3, k4⟩ := lp_inv (f := fun s : Int32 × Int32 × Int32 × Mem => f10_wrong_L19 N (nI w) s.1 s.2.1 s.2.2.1 s.2.2.2) (s := ((13 : Int32), (0 : Int32), (0 : Int32), S1)) (N := N)
      (fun i s => s.1 = nI (foM a.2.1.1 a.2.1.2.2.2 a.2.2.1 i).1 ∧ s.2.1 = nI (foM a.2.1.1 a.2.1.2.2.2 a.2.2.1 i).2 ∧ s.2.2.1 = nI i ∧ FW S1 s.2.2.2)
      (fun s => s.1 = nI (foM a.2.1.1 a.2.1.2.2.2 a.2.2.1 (nW a.2.1.1)).1 ∧ s.2.1 = nI (foM a.2.1.1 a.2.1.2.2.2 a.2.2.1 (nW a.2.1.1)).2 ∧ FW S1 s.2.2) (nW a.2.1.1)
      (by
        rintro c ⟨x, y, z, U⟩ hc ⟨hx, hy, hz, u1⟩
        dsimp only at hx hy hz u1 ⊢
        subst hx; subst hy; subst hz
        have hU := MSt_fw hMs u1
        obtain ⟨V, w1, w2, w3⟩ := M_go (N := N) hU hG' hc (by omega)
        have hph := (ph_ps hT hc).1
        have hmis := mis_lt (F := a.2.1.2.2.2) (x := ph a.2.1.1 c) hG'.2.2.2.1
        have hp := pop_le (mis a.2.1.2.2.2 a.2.2.1 (ph a.2.1.1 c))
        have h13 : (foM a.2.1.1 a.2.1.2.2.2 a.2.2.1 c).1 ≤ 13 := fo_le c
        have hst : foM a.2.1.1 a.2.1.2.2.2 a.2.2.1 (c + 1) = mst (foM a.2.1.1 a.2.1.2.2.2 a.2.2.1 c) (mis a.2.1.2.2.2 a.2.2.1 (ph a.2.1.1 c)) := by
          unfold foM
          rw [fo, if_pos rfl]
        refine ⟨(nI (foM a.2.1.1 a.2.1.2.2.2 a.2.2.1 (c + 1)).1, nI (foM a.2.1.1 a.2.1.2.2.2 a.2.2.1 (c + 1)).2, nI (c + 1), V), ?_, rfl, rfl, rfl, FW_tr u1 (FW_65 w3)⟩
        unfold f10_wrong_L19 f10_wrong_b72 f10_wrong_b85
        rw [M_worlds hU hG' (by omega), bnp_ok, if_neg (nI_ge hc (by omega)), w1, bnd_ok, M_false (MSt_fw hU (FW_65 w3)) hG' w2 hph (by omega), bnp_ok, f_bitsIn (by omega) (by omega), bnp_ok, hst]
        unfold mst
        by_cases c1 : pop (mis a.2.1.2.2.2 a.2.2.1 (ph a.2.1.1 c)) < (foM a.2.1.1 a.2.1.2.2.2 a.2.2.1 c).1
        · rw [if_neg (nI_ge c1 (by omega)), if_pos c1, lt_ok, nI_1, if_neg (nI_ge c1 (by omega)), lt_ok]
        · rw [if_pos (nI_le (show (foM a.2.1.1 a.2.1.2.2.2 a.2.2.1 c).1 ≤ _ by omega) (by omega)), if_neg c1]
          by_cases c2 : pop (mis a.2.1.2.2.2 a.2.2.1 (ph a.2.1.1 c)) = (foM a.2.1.1 a.2.1.2.2.2 a.2.2.1 c).1
          · rw [if_pos (by rw [c2]), if_pos c2, lt_ok, nI_1, fa_and]
            rw [if_pos (nI_le (show (foM a.2.1.1 a.2.1.2.2.2 a.2.2.1 c).1 ≤ _ by omega) (by omega))]
          · rw [if_neg (ne_nI (by omega) (by omega) c2), if_neg c2, lt_ok, nI_1]
            rw [if_pos (nI_le (show (foM a.2.1.1 a.2.1.2.2.2 a.2.2.1 c).1 ≤ _ by omega) (by omega))])
      (by
        rintro ⟨x, y, z, U⟩ ⟨hx, hy, hz, u1⟩
        dsimp only at hx hy hz u1 ⊢
        subst hx; subst hy; subst hz
        refine ⟨(nI (foM a.2.1.1 a.2.1.2.2.2 a.2.2.1 (nW a.2.1.1)).1, nI (foM a.2.1.1 a.2.1.2.2.2 a.2.2.1 (nW a.2.1.1)).2, U), ?_, rfl, rfl, u1⟩
        unfold f10_wrong_L19
        rw [M_worlds (MSt_fw hMs u1) hG' (by omega), bnp_ok, if_pos (nI_le (Nat.le_refl _) (by omega))])
      (by omega) ⟨rfl, rfl, rfl, FW_refl S1⟩
    rw [foM_all hT] at k2 k3
    have hb' : btw (nI w) 0 1 = 1 := hb
    by_cases c0 : w = 0
    · refine ⟨nI (foK a.2.1.1 a.2.1.2.2.2 a.2.2.1 10000).1, S1, q.2.2, ?_, ?_, Kp_done hX hM fl l2 k4⟩
      · unfold f9_wrong f8_fewestFalse
        rw [fX_btw, bnp_ok, hb', if_neg (by decide), if_pos (show nI w = 0 by rw [c0]; rfl), known, bnd_ok, bnp_ok, l2.2.2.1]
      · unfold f10_wrong f10_wrong_b92
        rw [fM_btw, bnp_ok, hb', if_neg (by decide), k1, bnp_ok, if_pos (show nI w = 0 by rw [c0]; rfl), k2]
    · have n0 : ¬ nI w = 0 := ne_nI (b := 0) (by omega) (by decide) c0
      refine ⟨nI (foK a.2.1.1 a.2.1.2.2.2 a.2.2.1 10000).2, S1, q.2.2, ?_, ?_, Kp_done hX hM fl l2 k4⟩
      · unfold f9_wrong f8_everFalse
        rw [fX_btw, bnp_ok, hb', if_neg (by decide), if_neg n0, known, bnd_ok, bnp_ok, l2.2.2.2.1]
      · unfold f10_wrong f10_wrong_b92
        rw [fM_btw, bnp_ok, hb', if_neg (by decide), k1, bnp_ok, if_neg n0, k3]
  · have hb' : btw i 0 1 = 0 := hb
    refine ⟨-1, S, S, ?_, ?_, hX, hM, hC⟩
    · unfold f9_wrong
      rw [fX_btw, bnp_ok, hb', if_pos rfl]
    · unfold f10_wrong
      rw [fM_btw, bnp_ok, hb', if_pos rfl]
