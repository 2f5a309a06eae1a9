def f1_kept_30 (N : Nat) (S : Mem) : Option Unit :=
some (())
set_option maxHeartbeats 1000000 in
theorem t1_kept_30 {E : En} {X : Cx} {Q : State → Prop} {N : Nat} {S : Mem} {o : Unit} (hF : Fx E X cX1_kept RX1 1 (some (.object "SelfScale$Book")) 0) (h : f1_kept_30 N S = some o) (hC : Q = RQ E X (some (.ref (eA E 31))) S) : J E X Q S 0 [(0, .ref (eA E 30))] [] := by
  unfold f1_kept_30 at h
  refine j_aload_n hF rfl 0 rfl dX1_kept_0 ?_
  refine gf1_0 hF (by decide) (s_30 E _) rfl bw_1_136 dX1_kept_1 ?_
  obtain rfl := ret1 h
  exact j_aret hF hC dX1_kept_4
set_option maxHeartbeats 1000000 in
theorem c1_kept_30 {E : En} {N : Nat} {S : Mem} {ro : Unit} (h : f1_kept_30 N S = some ro) : CT E yX1_kept cX1_kept 1 (some (.object "SelfScale$Book")) 0 [.ref (eA E 30)] S (some (.ref (eA E 31))) S :=
  CT_of (by decide) (Nat.le_of_ble_eq_true rfl) (fun X hF => t1_kept_30 hF h rfl)
def f0_copyFrom_15_31 (N : Nat) (S : Mem) : Option (Unit × Mem) :=
bnd (f5_copyFrom N 16 12 32 12 S) fun r1 S2 =>
bnd (f5_copyFrom N 18 12 34 12 S2) fun r3 S4 =>
bnd (f5_copyFrom N 20 12 36 12 S4) fun r5 S6 =>
lt_ (wr S6 15 3 ((S6 31).1 3)) fun S7 =>
some (((), S7))
set_option maxHeartbeats 1000000 in
theorem t0_copyFrom_15_31 {E : En} {X : Cx} {Q : State → Prop} {N : Nat} {S : Mem} {o : (Unit × Mem)} (hF : Fx E X cX0_copyFrom RX0 2 none 2) (h : f0_copyFrom_15_31 N S = some o) (hC : Q = RQ E X (none) o.2) : J E X Q S 0 [(0, .ref (eA E 15)), (1, .ref (eA E 31))] [] := by
  unfold f0_copyFrom_15_31 at h
  refine j_aload_n hF rfl 0 rfl dX0_copyFrom_0 ?_
  refine gf0_0 hF (by decide) (s_15 E _) rfl bw_1_115 dX0_copyFrom_1 ?_
  refine j_aload_n hF rfl 1 rfl dX0_copyFrom_4 ?_
  refine gf0_0 hF (by decide) (s_31 E _) rfl bw_1_115 dX0_copyFrom_5 ?_
  obtain ⟨r1, S2, hr1, h⟩ := bnd_some h
  refine j_callV_v (As := [.ref (eA E 32)]) (st := []) hF rfl mv_5_copyFrom (by decide) (s_16 E _) rfl bw_4_103 rfl (by decide) (Nat.le_of_ble_eq_true rfl) dX0_copyFrom_8 (c5_copyFrom (ra_16 E) (ra_32 E) hr1) ?_
  refine j_aload_n hF rfl 0 rfl dX0_copyFrom_11 ?_
  refine gf0_1 hF (by decide) (s_15 E _) rfl bw_1_116 dX0_copyFrom_12 ?_
  refine j_aload_n hF rfl 1 rfl dX0_copyFrom_15 ?_
  refine gf0_1 hF (by decide) (s_31 E _) rfl bw_1_116 dX0_copyFrom_16 ?_
  obtain ⟨r3, S4, hr3, h⟩ := bnd_some h
  refine j_callV_v (As := [.ref (eA E 34)]) (st := []) hF rfl mv_5_copyFrom (by decide) (s_18 E _) rfl bw_4_103 rfl (by decide) (Nat.le_of_ble_eq_true rfl) dX0_copyFrom_19 (c5_copyFrom (ra_18 E) (ra_34 E) hr3) ?_
  refine j_aload_n hF rfl 0 rfl dX0_copyFrom_22 ?_
  refine gf0_2 hF (by decide) (s_15 E _) rfl bw_1_117 dX0_copyFrom_23 ?_
  refine j_aload_n hF rfl 1 rfl dX0_copyFrom_26 ?_
  refine gf0_2 hF (by decide) (s_31 E _) rfl bw_1_117 dX0_copyFrom_27 ?_
  obtain ⟨r5, S6, hr5, h⟩ := bnd_some h
  refine j_callV_v (As := [.ref (eA E 36)]) (st := []) hF rfl mv_5_copyFrom (by decide) (s_20 E _) rfl bw_4_103 rfl (by decide) (Nat.le_of_ble_eq_true rfl) dX0_copyFrom_30 (c5_copyFrom (ra_20 E) (ra_36 E) hr5) ?_
  refine j_aload_n hF rfl 0 rfl dX0_copyFrom_33 ?_
  refine j_aload_n hF rfl 1 rfl dX0_copyFrom_34 ?_
  refine gf0_3 hF (by decide) (s_31 E _) rfl bw_1_118 dX0_copyFrom_35 ?_
  refine pf0_3 hF (by decide) (s_15 E _) (s_15 E _) (Nat.le_of_ble_eq_true rfl) bw_1_118 dX0_copyFrom_38 ?_
  refine j_nmM h (fun S7 h => ?_)
  obtain rfl := ret1 h
  exact j_vret hF hC dX0_copyFrom_41
set_option maxHeartbeats 1000000 in
theorem c0_copyFrom_15_31 {E : En} {N : Nat} {S So : Mem} {ro : Unit} (h : f0_copyFrom_15_31 N S = some (ro, So)) : CT E yX0_copyFrom cX0_copyFrom 2 none 2 [.ref (eA E 15), .ref (eA E 31)] S (none) So :=
  CT_of (by decide) (Nat.le_of_ble_eq_true rfl) (fun X hF => t0_copyFrom_15_31 hF h rfl)
def f1_isKept_30 (N : Nat) (S : Mem) : Option Int32 :=
if ((S 30).1 1) = 0 ∨ ((S 30).1 1) = 1 then
some (((S 30).1 1)) else none
set_option maxHeartbeats 1000000 in
theorem t1_isKept_30 {E : En} {X : Cx} {Q : State → Prop} {N : Nat} {S : Mem} {o : Int32} (hF : Fx E X cX1_isKept RX1 1 (some .boolean) 0) (h : f1_isKept_30 N S = some o) (hC : Q = RQ E X (some (.int o)) S) : J E X Q S 0 [(0, .ref (eA E 30))] [] := by
  unfold f1_isKept_30 at h
  refine j_aload_n hF rfl 0 rfl dX1_isKept_0 ?_
  refine gf1_1 hF (by decide) (s_30 E _) rfl bw_1_137 dX1_isKept_1 ?_
  obtain ⟨hz, h⟩ := zg_some h
  obtain rfl := ret1 h
  exact j_ret_boolean hF (zg_nar hz) hC dX1_isKept_4
set_option maxHeartbeats 1000000 in
theorem c1_isKept_30 {E : En} {N : Nat} {S : Mem} {ro : Int32} (h : f1_isKept_30 N S = some ro) : CT E yX1_isKept cX1_isKept 1 (some .boolean) 0 [.ref (eA E 30)] S (some (.int ro)) S :=
  CT_of (by decide) (Nat.le_of_ble_eq_true rfl) (fun X hF => t1_isKept_30 hF h rfl)
def f9_back (N : Nat) (a1 : Int32) (S : Mem) : Option (Int32 × Mem) :=
bnp (f9_isBetween N a1 (0 : Int32) (1 : Int32) S) fun r1 =>
if r1 = 0 then
some (((-1 : Int32), S))
else
if a1 = 0 then
bnp (f1_isKept_22 N S) fun r2 =>
if r2 = 0 then
some (((-2 : Int32), S))
else
if a1 = 0 then
bnp (f1_kept_22 N S) fun r3 =>
bnd (f0_copyFrom_15_23 N S) fun r4 S5 =>
bnd (f8_forget N S5) fun r6 S7 =>
bnp (f0_lines_15 N S7) fun r8 =>
some ((r8, S7))
else
bnp (f1_kept_30 N S) fun r9 =>
bnd (f0_copyFrom_15_31 N S) fun r10 S11 =>
bnd (f8_forget N S11) fun r12 S13 =>
bnp (f0_lines_15 N S13) fun r14 =>
some ((r14, S13))
else
bnp (f1_isKept_30 N S) fun r15 =>
if r15 = 0 then
some (((-2 : Int32), S))
else
if a1 = 0 then
bnp (f1_kept_22 N S) fun r16 =>
bnd (f0_copyFrom_15_23 N S) fun r17 S18 =>
bnd (f8_forget N S18) fun r19 S20 =>
bnp (f0_lines_15 N S20) fun r21 =>
some ((r21, S20))
else
bnp (f1_kept_30 N S) fun r22 =>
bnd (f0_copyFrom_15_31 N S) fun r23 S24 =>
bnd (f8_forget N S24) fun r25 S26 =>
bnp (f0_lines_15 N S26) fun r27 =>
some ((r27, S26))
set_option maxHeartbeats 1000000 in
theorem t9_back {E : En} {X : Cx} {Q : State → Prop} {N : Nat} {a1 : Int32} {S : Mem} {o : (Int32 × Mem)} (hF : Fx E X cX9_back RX9 2 (some .int) 3) (h : f9_back N a1 S = some o) (hC : Q = RQ E X (some (.int o.1)) o.2) : J E X Q S 0 [(0, .ref (eA E 0)), (1, .int a1)] [] := by
  unfold f9_back at h
  refine j_iload_n hF rfl 1 rfl dX9_back_0 ?_
  refine j_iconst (v := (0 : Int32)) hF (by decide) dX9_back_1 ?_
  refine j_iconst (v := (1 : Int32)) hF (by decide) dX9_back_2 ?_
  obtain ⟨r1, hr1, h⟩ := bnp_some h
  refine j_callS_i (As := [.int a1, .int (0 : Int32), .int (1 : Int32)]) (st := []) hF rfl mv_9_isBetween bw_2_219 rfl (by decide) (Nat.le_of_ble_eq_true rfl) dX9_back_3 (c9_isBetween hr1) ?_
  refine j_if_ne (tgt := 11) hF h (by decide) dX9_back_6 (fun h => ?_) (fun h => ?_)
  · refine j_aload_n hF rfl 0 rfl dX9_back_11 ?_
    refine j_iload_n hF rfl 1 rfl dX9_back_12 ?_
    by_cases hc : a1 = 0
    · rw [if_pos hc] at h
      refine j_callV_r (As := [.int a1]) (st := []) hF rfl mv_9_imageOf (by decide) (s_0 E _) rfl bw_4_91 rfl (by decide) (Nat.le_of_ble_eq_true rfl) dX9_back_13 (c9_imageOf_0 hc) ?_
      obtain ⟨r2, hr2, h⟩ := bnp_some h
      refine j_callV_i (As := []) (st := []) hF rfl mv_1_isKept (by decide) (s_22 E _) rfl bw_4_108 rfl (by decide) (Nat.le_of_ble_eq_true rfl) dX9_back_16 (c1_isKept_22 hr2) ?_
      refine j_if_ne (tgt := 25) hF h (by decide) dX9_back_19 (fun h => ?_) (fun h => ?_)
      · refine j_aload_n hF rfl 0 rfl dX9_back_25 ?_
        refine gf9_3 hF (by decide) (s_0 E _) rfl bw_1_228 dX9_back_26 ?_
        refine j_aload_n hF rfl 0 rfl dX9_back_29 ?_
        refine j_iload_n hF rfl 1 rfl dX9_back_30 ?_
        by_cases hc : a1 = 0
        · rw [if_pos hc] at h
          refine j_callV_r (As := [.int a1]) (st := [.ref (eA E 15)]) hF rfl mv_9_imageOf (by decide) (s_0 E _) rfl bw_4_91 rfl (by decide) (Nat.le_of_ble_eq_true rfl) dX9_back_31 (c9_imageOf_0 hc) ?_
          obtain ⟨r3, hr3, h⟩ := bnp_some h
          refine j_callV_r (As := []) (st := [.ref (eA E 15)]) hF rfl mv_1_kept (by decide) (s_22 E _) rfl bw_4_112 rfl (by decide) (Nat.le_of_ble_eq_true rfl) dX9_back_34 (c1_kept_22 hr3) ?_
          obtain ⟨r4, S5, hr4, h⟩ := bnd_some h
          refine j_callV_v (As := [.ref (eA E 23)]) (st := []) hF rfl mv_0_copyFrom (by decide) (s_15 E _) rfl bw_4_116 rfl (by decide) (Nat.le_of_ble_eq_true rfl) dX9_back_37 (c0_copyFrom_15_23 hr4) ?_
          refine j_aload_n hF rfl 0 rfl dX9_back_40 ?_
          refine gf9_7 hF (by decide) (s_0 E _) rfl bw_1_232 dX9_back_41 ?_
          obtain ⟨r6, S7, hr6, h⟩ := bnd_some h
          refine j_callV_v (As := []) (st := []) hF rfl mv_8_forget (by decide) (s_39 E _) rfl bw_2_201 rfl (by decide) (Nat.le_of_ble_eq_true rfl) dX9_back_44 (c8_forget hr6) ?_
          refine j_aload_n hF rfl 0 rfl dX9_back_47 ?_
          refine gf9_3 hF (by decide) (s_0 E _) rfl bw_1_228 dX9_back_48 ?_
          obtain ⟨r8, hr8, h⟩ := bnp_some h
          refine j_callV_i (As := []) (st := []) hF rfl mv_0_lines (by decide) (s_15 E _) rfl bw_3_27 rfl (by decide) (Nat.le_of_ble_eq_true rfl) dX9_back_51 (c0_lines_15 hr8) ?_
          obtain rfl := ret1 h
          exact j_iret hF hC dX9_back_54
        · rw [if_neg hc] at h
          refine j_callV_r (As := [.int a1]) (st := [.ref (eA E 15)]) hF rfl mv_9_imageOf (by decide) (s_0 E _) rfl bw_4_91 rfl (by decide) (Nat.le_of_ble_eq_true rfl) dX9_back_31 (c9_imageOf_1 hc) ?_
          obtain ⟨r9, hr9, h⟩ := bnp_some h
          refine j_callV_r (As := []) (st := [.ref (eA E 15)]) hF rfl mv_1_kept (by decide) (s_30 E _) rfl bw_4_112 rfl (by decide) (Nat.le_of_ble_eq_true rfl) dX9_back_34 (c1_kept_30 hr9) ?_
          obtain ⟨r10, S11, hr10, h⟩ := bnd_some h
          refine j_callV_v (As := [.ref (eA E 31)]) (st := []) hF rfl mv_0_copyFrom (by decide) (s_15 E _) rfl bw_4_116 rfl (by decide) (Nat.le_of_ble_eq_true rfl) dX9_back_37 (c0_copyFrom_15_31 hr10) ?_
          refine j_aload_n hF rfl 0 rfl dX9_back_40 ?_
          refine gf9_7 hF (by decide) (s_0 E _) rfl bw_1_232 dX9_back_41 ?_
          obtain ⟨r12, S13, hr12, h⟩ := bnd_some h
          refine j_callV_v (As := []) (st := []) hF rfl mv_8_forget (by decide) (s_39 E _) rfl bw_2_201 rfl (by decide) (Nat.le_of_ble_eq_true rfl) dX9_back_44 (c8_forget hr12) ?_
          refine j_aload_n hF rfl 0 rfl dX9_back_47 ?_
          refine gf9_3 hF (by decide) (s_0 E _) rfl bw_1_228 dX9_back_48 ?_
          obtain ⟨r14, hr14, h⟩ := bnp_some h
          refine j_callV_i (As := []) (st := []) hF rfl mv_0_lines (by decide) (s_15 E _) rfl bw_3_27 rfl (by decide) (Nat.le_of_ble_eq_true rfl) dX9_back_51 (c0_lines_15 hr14) ?_
          obtain rfl := ret1 h
          exact j_iret hF hC dX9_back_54
      · refine j_bipush (v := (-2 : Int32)) hF (by decide) dX9_back_22 ?_
        obtain rfl := ret1 h
        exact j_iret hF hC dX9_back_24
    · rw [if_neg hc] at h
      refine j_callV_r (As := [.int a1]) (st := []) hF rfl mv_9_imageOf (by decide) (s_0 E _) rfl bw_4_91 rfl (by decide) (Nat.le_of_ble_eq_true rfl) dX9_back_13 (c9_imageOf_1 hc) ?_
      obtain ⟨r15, hr15, h⟩ := bnp_some h
      refine j_callV_i (As := []) (st := []) hF rfl mv_1_isKept (by decide) (s_30 E _) rfl bw_4_108 rfl (by decide) (Nat.le_of_ble_eq_true rfl) dX9_back_16 (c1_isKept_30 hr15) ?_
      refine j_if_ne (tgt := 25) hF h (by decide) dX9_back_19 (fun h => ?_) (fun h => ?_)
      · refine j_aload_n hF rfl 0 rfl dX9_back_25 ?_
        refine gf9_3 hF (by decide) (s_0 E _) rfl bw_1_228 dX9_back_26 ?_
        refine j_aload_n hF rfl 0 rfl dX9_back_29 ?_
        refine j_iload_n hF rfl 1 rfl dX9_back_30 ?_
        by_cases hc : a1 = 0
        · rw [if_pos hc] at h
          refine j_callV_r (As := [.int a1]) (st := [.ref (eA E 15)]) hF rfl mv_9_imageOf (by decide) (s_0 E _) rfl bw_4_91 rfl (by decide) (Nat.le_of_ble_eq_true rfl) dX9_back_31 (c9_imageOf_0 hc) ?_
          obtain ⟨r16, hr16, h⟩ := bnp_some h
          refine j_callV_r (As := []) (st := [.ref (eA E 15)]) hF rfl mv_1_kept (by decide) (s_22 E _) rfl bw_4_112 rfl (by decide) (Nat.le_of_ble_eq_true rfl) dX9_back_34 (c1_kept_22 hr16) ?_
          obtain ⟨r17, S18, hr17, h⟩ := bnd_some h
          refine j_callV_v (As := [.ref (eA E 23)]) (st := []) hF rfl mv_0_copyFrom (by decide) (s_15 E _) rfl bw_4_116 rfl (by decide) (Nat.le_of_ble_eq_true rfl) dX9_back_37 (c0_copyFrom_15_23 hr17) ?_
          refine j_aload_n hF rfl 0 rfl dX9_back_40 ?_
          refine gf9_7 hF (by decide) (s_0 E _) rfl bw_1_232 dX9_back_41 ?_
          obtain ⟨r19, S20, hr19, h⟩ := bnd_some h
          refine j_callV_v (As := []) (st := []) hF rfl mv_8_forget (by decide) (s_39 E _) rfl bw_2_201 rfl (by decide) (Nat.le_of_ble_eq_true rfl) dX9_back_44 (c8_forget hr19) ?_
          refine j_aload_n hF rfl 0 rfl dX9_back_47 ?_
          refine gf9_3 hF (by decide) (s_0 E _) rfl bw_1_228 dX9_back_48 ?_
          obtain ⟨r21, hr21, h⟩ := bnp_some h
          refine j_callV_i (As := []) (st := []) hF rfl mv_0_lines (by decide) (s_15 E _) rfl bw_3_27 rfl (by decide) (Nat.le_of_ble_eq_true rfl) dX9_back_51 (c0_lines_15 hr21) ?_
          obtain rfl := ret1 h
          exact j_iret hF hC dX9_back_54
        · rw [if_neg hc] at h
          refine j_callV_r (As := [.int a1]) (st := [.ref (eA E 15)]) hF rfl mv_9_imageOf (by decide) (s_0 E _) rfl bw_4_91 rfl (by decide) (Nat.le_of_ble_eq_true rfl) dX9_back_31 (c9_imageOf_1 hc) ?_
          obtain ⟨r22, hr22, h⟩ := bnp_some h
          refine j_callV_r (As := []) (st := [.ref (eA E 15)]) hF rfl mv_1_kept (by decide) (s_30 E _) rfl bw_4_112 rfl (by decide) (Nat.le_of_ble_eq_true rfl) dX9_back_34 (c1_kept_30 hr22) ?_
          obtain ⟨r23, S24, hr23, h⟩ := bnd_some h
          refine j_callV_v (As := [.ref (eA E 31)]) (st := []) hF rfl mv_0_copyFrom (by decide) (s_15 E _) rfl bw_4_116 rfl (by decide) (Nat.le_of_ble_eq_true rfl) dX9_back_37 (c0_copyFrom_15_31 hr23) ?_
          refine j_aload_n hF rfl 0 rfl dX9_back_40 ?_
          refine gf9_7 hF (by decide) (s_0 E _) rfl bw_1_232 dX9_back_41 ?_
          obtain ⟨r25, S26, hr25, h⟩ := bnd_some h
          refine j_callV_v (As := []) (st := []) hF rfl mv_8_forget (by decide) (s_39 E _) rfl bw_2_201 rfl (by decide) (Nat.le_of_ble_eq_true rfl) dX9_back_44 (c8_forget hr25) ?_
          refine j_aload_n hF rfl 0 rfl dX9_back_47 ?_
          refine gf9_3 hF (by decide) (s_0 E _) rfl bw_1_228 dX9_back_48 ?_
          obtain ⟨r27, hr27, h⟩ := bnp_some h
          refine j_callV_i (As := []) (st := []) hF rfl mv_0_lines (by decide) (s_15 E _) rfl bw_3_27 rfl (by decide) (Nat.le_of_ble_eq_true rfl) dX9_back_51 (c0_lines_15 hr27) ?_
          obtain rfl := ret1 h
          exact j_iret hF hC dX9_back_54
      · refine j_bipush (v := (-2 : Int32)) hF (by decide) dX9_back_22 ?_
        obtain rfl := ret1 h
        exact j_iret hF hC dX9_back_24
  · refine j_iconst (v := (-1 : Int32)) hF (by decide) dX9_back_9 ?_
    obtain rfl := ret1 h
    exact j_iret hF hC dX9_back_10
set_option maxHeartbeats 1000000 in
theorem c9_back {E : En} {N : Nat} {a1 : Int32} {S So : Mem} {ro : Int32} (h : f9_back N a1 S = some (ro, So)) : CT E yX9_back cX9_back 2 (some .int) 3 [.ref (eA E 0), .int a1] S (some (.int ro)) So :=
  CT_of (by decide) (Nat.le_of_ble_eq_true rfl) (fun X hF => t9_back hF h rfl)
def f9_count (N : Nat) (a1 : Int32) (S : Mem) : Option Int32 :=
if a1 = (0 : Int32) then
bnp (f6_things_10 N S) fun r1 =>
some (r1)
else
if a1 = (1 : Int32) then
bnp (f6_figures_10 N S) fun r2 =>
some (r2)
else
if a1 = (2 : Int32) then
bnp (f0_lines_15 N S) fun r3 =>
some (r3)
else
if a1 = (3 : Int32) then
bnp (f7_length N S) fun r4 =>
some (r4)
else
some ((-1 : Int32))
set_option maxHeartbeats 1000000 in
theorem t9_count {E : En} {X : Cx} {Q : State → Prop} {N : Nat} {a1 : Int32} {S : Mem} {o : Int32} (hF : Fx E X cX9_count RX9 2 (some .int) 1) (h : f9_count N a1 S = some o) (hC : Q = RQ E X (some (.int o)) S) : J E X Q S 0 [(0, .ref (eA E 0)), (1, .int a1)] [] := by
  unfold f9_count at h
  refine j_iload_n hF rfl 1 rfl dX9_count_0 ?_
  by_cases c0 : a1 = (0 : Int32)
  · rw [if_pos c0] at h
    refine j_tswIn (tgt := 32) hF c0 (by decide) (by decide) rfl (by decide) dX9_count_1 ?_
    refine j_aload_n hF rfl 0 rfl dX9_count_32 ?_
    refine gf9_2 hF (by decide) (s_0 E _) rfl bw_1_227 dX9_count_33 ?_
    obtain ⟨r1, hr1, h⟩ := bnp_some h
    refine j_callV_i (As := []) (st := []) hF rfl mv_6_things (by decide) (s_10 E _) rfl bw_2_218 rfl (by decide) (Nat.le_of_ble_eq_true rfl) dX9_count_36 (c6_things_10 hr1) ?_
    obtain rfl := ret1 h
    exact j_iret hF hC dX9_count_39
  · rw [if_neg c0] at h
    by_cases c1 : a1 = (1 : Int32)
    · rw [if_pos c1] at h
      refine j_tswIn (tgt := 40) hF c1 (by decide) (by decide) rfl (by decide) dX9_count_1 ?_
      refine j_aload_n hF rfl 0 rfl dX9_count_40 ?_
      refine gf9_2 hF (by decide) (s_0 E _) rfl bw_1_227 dX9_count_41 ?_
      obtain ⟨r2, hr2, h⟩ := bnp_some h
      refine j_callV_i (As := []) (st := []) hF rfl mv_6_figures (by decide) (s_10 E _) rfl bw_3_23 rfl (by decide) (Nat.le_of_ble_eq_true rfl) dX9_count_44 (c6_figures_10 hr2) ?_
      obtain rfl := ret1 h
      exact j_iret hF hC dX9_count_47
    · rw [if_neg c1] at h
      by_cases c2 : a1 = (2 : Int32)
      · rw [if_pos c2] at h
        refine j_tswIn (tgt := 48) hF c2 (by decide) (by decide) rfl (by decide) dX9_count_1 ?_
        refine j_aload_n hF rfl 0 rfl dX9_count_48 ?_
        refine gf9_3 hF (by decide) (s_0 E _) rfl bw_1_228 dX9_count_49 ?_
        obtain ⟨r3, hr3, h⟩ := bnp_some h
        refine j_callV_i (As := []) (st := []) hF rfl mv_0_lines (by decide) (s_15 E _) rfl bw_3_27 rfl (by decide) (Nat.le_of_ble_eq_true rfl) dX9_count_52 (c0_lines_15 hr3) ?_
        obtain rfl := ret1 h
        exact j_iret hF hC dX9_count_55
      · rw [if_neg c2] at h
        by_cases c3 : a1 = (3 : Int32)
        · rw [if_pos c3] at h
          refine j_tswIn (tgt := 56) hF c3 (by decide) (by decide) rfl (by decide) dX9_count_1 ?_
          refine j_aload_n hF rfl 0 rfl dX9_count_56 ?_
          refine gf9_0 hF (by decide) (s_0 E _) rfl bw_1_225 dX9_count_57 ?_
          obtain ⟨r4, hr4, h⟩ := bnp_some h
          refine j_callV_i (As := []) (st := []) hF rfl mv_7_length (by decide) (s_1 E _) rfl bw_2_17 rfl (by decide) (Nat.le_of_ble_eq_true rfl) dX9_count_60 (c7_length hr4) ?_
          obtain rfl := ret1 h
          exact j_iret hF hC dX9_count_63
        · rw [if_neg c3] at h
          have e0 : a1.toInt ≠ 0 := ne_toInt c0
          have e1 : a1.toInt ≠ 1 := ne_toInt c1
          have e2 : a1.toInt ≠ 2 := ne_toInt c2
          have e3 : a1.toInt ≠ 3 := ne_toInt c3
          refine j_tswOut (tgt := 64) hF (by omega) (by decide) dX9_count_1 ?_
          refine j_iconst (v := (-1 : Int32)) hF (by decide) dX9_count_64 ?_
          obtain rfl := ret1 h
          exact j_iret hF hC dX9_count_65
set_option maxHeartbeats 1000000 in
theorem c9_count {E : En} {N : Nat} {a1 : Int32} {S : Mem} {ro : Int32} (h : f9_count N a1 S = some ro) : CT E yX9_count cX9_count 2 (some .int) 1 [.ref (eA E 0), .int a1] S (some (.int ro)) S :=
  CT_of (by decide) (Nat.le_of_ble_eq_true rfl) (fun X hF => t9_count hF h rfl)
def f2_asked (N : Nat) (S : Mem) : Option Int64 :=
some ((S 38).2)
set_option maxHeartbeats 1000000 in
theorem t2_asked {E : En} {X : Cx} {Q : State → Prop} {N : Nat} {S : Mem} {o : Int64} (hF : Fx E X cX2_asked RX2 1 (some .long) 0) (h : f2_asked N S = some o) (hC : Q = RQ E X (some (.long o)) S) : J E X Q S 0 [(0, .ref (eA E 38))] [] := by
  unfold f2_asked at h
  refine j_aload_n hF rfl 0 rfl dX2_asked_0 ?_
  refine gf2_2 hF (by decide) (s_38 E _) rfl bw_1_151 dX2_asked_1 ?_
  obtain rfl := ret1 h
  exact j_lret hF hC dX2_asked_4
set_option maxHeartbeats 1000000 in
theorem c2_asked {E : En} {N : Nat} {S : Mem} {ro : Int64} (h : f2_asked N S = some ro) : CT E yX2_asked cX2_asked 1 (some .long) 0 [.ref (eA E 38)] S (some (.long ro)) S :=
  CT_of (by decide) (Nat.le_of_ble_eq_true rfl) (fun X hF => t2_asked hF h rfl)
def f9_trace (N : Nat) (S : Mem) : Option Int64 :=
bnp (f2_asked N S) fun r1 =>
some (r1)
set_option maxHeartbeats 1000000 in
theorem t9_trace {E : En} {X : Cx} {Q : State → Prop} {N : Nat} {S : Mem} {o : Int64} (hF : Fx E X cX9_trace RX9 1 (some .long) 1) (h : f9_trace N S = some o) (hC : Q = RQ E X (some (.long o)) S) : J E X Q S 0 [(0, .ref (eA E 0))] [] := by
  unfold f9_trace at h
  refine j_aload_n hF rfl 0 rfl dX9_trace_0 ?_
  refine gf9_6 hF (by decide) (s_0 E _) rfl bw_1_231 dX9_trace_1 ?_
  obtain ⟨r1, hr1, h⟩ := bnp_some h
  refine j_callV_l (As := []) (st := []) hF rfl mv_2_asked (by decide) (s_38 E _) rfl bw_4_125 rfl (by decide) (Nat.le_of_ble_eq_true rfl) dX9_trace_4 (c2_asked hr1) ?_
  obtain rfl := ret1 h
  exact j_lret hF hC dX9_trace_7
set_option maxHeartbeats 1000000 in
theorem c9_trace {E : En} {N : Nat} {S : Mem} {ro : Int64} (h : f9_trace N S = some ro) : CT E yX9_trace cX9_trace 1 (some .long) 1 [.ref (eA E 0)] S (some (.long ro)) S :=
  CT_of (by decide) (Nat.le_of_ble_eq_true rfl) (fun X hF => t9_trace hF h rfl)
