def f6_own_10 (N : Nat) (S : Mem) : Option Int32 :=
some (((S 10).1 3))
set_option maxHeartbeats 1000000 in
theorem t6_own_10 {E : En} {X : Cx} {Q : State → Prop} {N : Nat} {S : Mem} {o : Int32} (hF : Fx E X cX6_own RX6 1 (some .int) 0) (h : f6_own_10 N S = some o) (hC : Q = RQ E X (some (.int o)) S) : J E X Q S 0 [(0, .ref (eA E 10))] [] := by
  unfold f6_own_10 at h
  refine j_aload_n hF rfl 0 rfl dX6_own_0 ?_
  refine gf6_3 hF (by decide) (s_10 E _) rfl bw_1_67 dX6_own_1 ?_
  obtain rfl := ret1 h
  exact j_iret hF hC dX6_own_4
set_option maxHeartbeats 1000000 in
theorem c6_own_10 {E : En} {N : Nat} {S : Mem} {ro : Int32} (h : f6_own_10 N S = some ro) : CT E yX6_own cX6_own 1 (some .int) 0 [.ref (eA E 10)] S (some (.int ro)) S :=
  CT_of (by decide) (Nat.le_of_ble_eq_true rfl) (fun X hF => t6_own_10 hF h rfl)
def f6_leftOver_10 (N : Nat) (a1 : Int32) (S : Mem) : Option Int32 :=
if (1 : Int32) ≤ ((S 10).1 4) then
if ((S 10).1 4) = (0 : Int32) then none else
some ((a1 - a1 / ((S 10).1 4) * ((S 10).1 4)))
else
some ((0 : Int32))
set_option maxHeartbeats 1000000 in
theorem t6_leftOver_10 {E : En} {X : Cx} {Q : State → Prop} {N : Nat} {a1 : Int32} {S : Mem} {o : Int32} (hF : Fx E X cX6_leftOver RX6 2 (some .int) 0) (h : f6_leftOver_10 N a1 S = some o) (hC : Q = RQ E X (some (.int o)) S) : J E X Q S 0 [(0, .ref (eA E 10)), (1, .int a1)] [] := by
  unfold f6_leftOver_10 at h
  refine j_aload_n hF rfl 0 rfl dX6_leftOver_0 ?_
  refine gf6_4 hF (by decide) (s_10 E _) rfl bw_1_68 dX6_leftOver_1 ?_
  refine j_iconst (v := (1 : Int32)) hF (by decide) dX6_leftOver_4 ?_
  refine j_icmp_ge (tgt := 12) hF h (by decide) dX6_leftOver_5 (fun h => ?_) (fun h => ?_)
  · refine j_iload_n hF rfl 1 rfl dX6_leftOver_12 ?_
    refine j_aload_n hF rfl 0 rfl dX6_leftOver_13 ?_
    refine gf6_4 hF (by decide) (s_10 E _) rfl bw_1_68 dX6_leftOver_14 ?_
    refine j_irem hF h dX6_leftOver_17 (fun h => ?_)
    obtain rfl := ret1 h
    exact j_iret hF hC dX6_leftOver_18
  · refine j_iconst (v := (0 : Int32)) hF (by decide) dX6_leftOver_8 ?_
    refine j_goto (tgt := 18) hF (by decide) dX6_leftOver_9 ?_
    obtain rfl := ret1 h
    exact j_iret hF hC dX6_leftOver_18
set_option maxHeartbeats 1000000 in
theorem c6_leftOver_10 {E : En} {N : Nat} {a1 : Int32} {S : Mem} {ro : Int32} (h : f6_leftOver_10 N a1 S = some ro) : CT E yX6_leftOver cX6_leftOver 2 (some .int) 0 [.ref (eA E 10), .int a1] S (some (.int ro)) S :=
  CT_of (by decide) (Nat.le_of_ble_eq_true rfl) (fun X hF => t6_leftOver_10 hF h rfl)
def f0_add_15 (N : Nat) (a1 : Int32) (a2 : Int32) (a3 : Int32) (S : Mem) : Option (Unit × Mem) :=
bnp (f0_isFull_15 N S) fun r1 =>
if r1 = 0 then
bnd (f5_put N 16 12 ((S 15).1 3) a1 S) fun r2 S3 =>
bnd (f5_put N 18 12 ((S3 15).1 3) a2 S3) fun r4 S5 =>
bnd (f5_put N 20 12 ((S5 15).1 3) a3 S5) fun r6 S7 =>
lt_ (wr S7 15 3 (((S7 15).1 3) + (1 : Int32))) fun S8 =>
some (((), S8))
else
some (((), S))
set_option maxHeartbeats 1000000 in
theorem t0_add_15 {E : En} {X : Cx} {Q : State → Prop} {N : Nat} {a1 : Int32} {a2 : Int32} {a3 : Int32} {S : Mem} {o : (Unit × Mem)} (hF : Fx E X cX0_add RX0 4 none 1) (h : f0_add_15 N a1 a2 a3 S = some o) (hC : Q = RQ E X (none) o.2) : J E X Q S 0 [(0, .ref (eA E 15)), (1, .int a1), (2, .int a2), (3, .int a3)] [] := by
  unfold f0_add_15 at h
  refine j_aload_n hF rfl 0 rfl dX0_add_0 ?_
  obtain ⟨r1, hr1, h⟩ := bnp_some h
  refine j_callV_i (As := []) (st := []) hF rfl mv_0_isFull (by decide) (s_15 E _) rfl bw_3_17 rfl (by decide) (Nat.le_of_ble_eq_true rfl) dX0_add_1 (c0_isFull_15 hr1) ?_
  refine j_if_eq (tgt := 8) hF h (by decide) dX0_add_4 (fun h => ?_) (fun h => ?_)
  · refine j_aload_n hF rfl 0 rfl dX0_add_8 ?_
    refine gf0_0 hF (by decide) (s_15 E _) rfl bw_1_115 dX0_add_9 ?_
    refine j_aload_n hF rfl 0 rfl dX0_add_12 ?_
    refine gf0_3 hF (by decide) (s_15 E _) rfl bw_1_118 dX0_add_13 ?_
    refine j_iload_n hF rfl 1 rfl dX0_add_16 ?_
    obtain ⟨r2, S3, hr2, h⟩ := bnd_some h
    refine j_callV_v (As := [.int ((S 15).1 3), .int a1]) (st := []) hF rfl mv_5_put (by decide) (s_16 E _) rfl bw_3_18 rfl (by decide) (Nat.le_of_ble_eq_true rfl) dX0_add_17 (c5_put (ra_16 E) hr2) ?_
    refine j_aload_n hF rfl 0 rfl dX0_add_20 ?_
    refine gf0_1 hF (by decide) (s_15 E _) rfl bw_1_116 dX0_add_21 ?_
    refine j_aload_n hF rfl 0 rfl dX0_add_24 ?_
    refine gf0_3 hF (by decide) (s_15 E _) rfl bw_1_118 dX0_add_25 ?_
    refine j_iload_n hF rfl 2 rfl dX0_add_28 ?_
    obtain ⟨r4, S5, hr4, h⟩ := bnd_some h
    refine j_callV_v (As := [.int ((S3 15).1 3), .int a2]) (st := []) hF rfl mv_5_put (by decide) (s_18 E _) rfl bw_3_18 rfl (by decide) (Nat.le_of_ble_eq_true rfl) dX0_add_29 (c5_put (ra_18 E) hr4) ?_
    refine j_aload_n hF rfl 0 rfl dX0_add_32 ?_
    refine gf0_2 hF (by decide) (s_15 E _) rfl bw_1_117 dX0_add_33 ?_
    refine j_aload_n hF rfl 0 rfl dX0_add_36 ?_
    refine gf0_3 hF (by decide) (s_15 E _) rfl bw_1_118 dX0_add_37 ?_
    refine j_iload_n hF rfl 3 rfl dX0_add_40 ?_
    obtain ⟨r6, S7, hr6, h⟩ := bnd_some h
    refine j_callV_v (As := [.int ((S5 15).1 3), .int a3]) (st := []) hF rfl mv_5_put (by decide) (s_20 E _) rfl bw_3_18 rfl (by decide) (Nat.le_of_ble_eq_true rfl) dX0_add_41 (c5_put (ra_20 E) hr6) ?_
    refine j_aload_n hF rfl 0 rfl dX0_add_44 ?_
    refine j_dup hF rfl dX0_add_45 ?_
    refine gf0_3 hF (by decide) (s_15 E _) rfl bw_1_118 dX0_add_46 ?_
    refine j_iconst (v := (1 : Int32)) hF (by decide) dX0_add_49 ?_
    refine j_iadd hF dX0_add_50 ?_
    refine pf0_3 hF (by decide) (s_15 E _) (s_15 E _) (Nat.le_of_ble_eq_true rfl) bw_1_118 dX0_add_51 ?_
    refine j_nmM h (fun S8 h => ?_)
    obtain rfl := ret1 h
    exact j_vret hF hC dX0_add_54
  · obtain rfl := ret1 h
    exact j_vret hF hC dX0_add_7
set_option maxHeartbeats 1000000 in
theorem c0_add_15 {E : En} {N : Nat} {a1 : Int32} {a2 : Int32} {a3 : Int32} {S So : Mem} {ro : Unit} (h : f0_add_15 N a1 a2 a3 S = some (ro, So)) : CT E yX0_add cX0_add 4 none 1 [.ref (eA E 15), .int a1, .int a2, .int a3] S (none) So :=
  CT_of (by decide) (Nat.le_of_ble_eq_true rfl) (fun X hF => t0_add_15 hF h rfl)
def f9_weigh_b85 (N : Nat) (v4 : Int32) (w0 : Int32) (w1 : Int32) (w2 : Int32) (S : Mem) : Option (Int32 × Mem) :=
bnd (f0_add_15 N w2 w1 w0 S) fun r8 S9 =>
bnd (f8_forget N S9) fun r10 S11 =>
some ((v4, S11))
def f9_weigh (N : Nat) (a1 : Int32) (a2 : Int32) (a3 : Int32) (S : Mem) : Option (Int32 × Mem) :=
bnp (f9_isSet N a1 S) fun r1 =>
if r1 = 0 then
some (((-1 : Int32), S))
else
bnp (f9_isBetween N a2 (0 : Int32) (1 : Int32) S) fun r2 =>
if r2 = 0 then
some (((-1 : Int32), S))
else
bnp (f9_isBetween N a3 (0 : Int32) (1 : Int32) S) fun r3 =>
if r3 = 0 then
some (((-1 : Int32), S))
else
bnp (f0_isFull_15 N S) fun r4 =>
if r4 = 0 then
bnp (f6_loadOf_10 N a1 S) fun r5 =>
bnp (f6_own_10 N S) fun r6 =>
bnp (f6_leftOver_10 N ((r5 + r6) + a2) S) fun r7 =>
if a3 = (1 : Int32) then
f9_weigh_b85 N r7 a2 r7 a1 S
else
f9_weigh_b85 N r7 (2 : Int32) r7 a1 S
else
some (((-3 : Int32), S))
set_option maxHeartbeats 1000000 in
theorem t9_weigh_b85 {E : En} {X : Cx} {Q : State → Prop} {N : Nat} {v4 : Int32} {w0 : Int32} {w1 : Int32} {w2 : Int32} {S : Mem} {o : (Int32 × Mem)} (hF : Fx E X cX9_weigh RX9 5 (some .int) 2) (h : f9_weigh_b85 N v4 w0 w1 w2 S = some o) (hC : Q = RQ E X (some (.int o.1)) o.2) : J E X Q S 85 [(0, .ref (eA E 0)), (4, .int v4)] [.int w0, .int w1, .int w2, .ref (eA E 15)] := by
  unfold f9_weigh_b85 at h
  obtain ⟨r8, S9, hr8, h⟩ := bnd_some h
  refine j_callV_v (As := [.int w2, .int w1, .int w0]) (st := []) hF rfl mv_0_add (by decide) (s_15 E _) rfl bw_3_13 rfl (by decide) (Nat.le_of_ble_eq_true rfl) dX9_weigh_85 (c0_add_15 hr8) ?_
  refine j_aload_n hF rfl 0 rfl dX9_weigh_88 ?_
  refine gf9_7 hF (by decide) (s_0 E _) rfl bw_1_232 dX9_weigh_89 ?_
  obtain ⟨r10, S11, hr10, h⟩ := bnd_some h
  refine j_callV_v (As := []) (st := []) hF rfl mv_8_forget (by decide) (s_39 E _) rfl bw_2_201 rfl (by decide) (Nat.le_of_ble_eq_true rfl) dX9_weigh_92 (c8_forget hr10) ?_
  refine j_iload hF 1 rfl dX9_weigh_95 ?_
  obtain rfl := ret1 h
  exact j_iret hF hC dX9_weigh_97
set_option maxHeartbeats 1000000 in
theorem t9_weigh {E : En} {X : Cx} {Q : State → Prop} {N : Nat} {a1 : Int32} {a2 : Int32} {a3 : Int32} {S : Mem} {o : (Int32 × Mem)} (hF : Fx E X cX9_weigh RX9 5 (some .int) 2) (h : f9_weigh N a1 a2 a3 S = some o) (hC : Q = RQ E X (some (.int o.1)) o.2) : J E X Q S 0 [(0, .ref (eA E 0)), (1, .int a1), (2, .int a2), (3, .int a3)] [] := by
  unfold f9_weigh at h
  refine j_aload_n hF rfl 0 rfl dX9_weigh_0 ?_
  refine j_iload_n hF rfl 1 rfl dX9_weigh_1 ?_
  obtain ⟨r1, hr1, h⟩ := bnp_some h
  refine j_callV_i (As := [.int a1]) (st := []) hF rfl mv_9_isSet (by decide) (s_0 E _) rfl bw_2_229 rfl (by decide) (Nat.le_of_ble_eq_true rfl) dX9_weigh_2 (c9_isSet hr1) ?_
  refine j_if_eq (tgt := 26) hF h (by decide) dX9_weigh_5 (fun h => ?_) (fun h => ?_)
  · refine j_iconst (v := (-1 : Int32)) hF (by decide) dX9_weigh_26 ?_
    obtain rfl := ret1 h
    exact j_iret hF hC dX9_weigh_27
  · refine j_iload_n hF rfl 2 rfl dX9_weigh_8 ?_
    refine j_iconst (v := (0 : Int32)) hF (by decide) dX9_weigh_9 ?_
    refine j_iconst (v := (1 : Int32)) hF (by decide) dX9_weigh_10 ?_
    obtain ⟨r2, hr2, h⟩ := bnp_some h
    refine j_callS_i (As := [.int a2, .int (0 : Int32), .int (1 : Int32)]) (st := []) hF rfl mv_9_isBetween bw_2_219 rfl (by decide) (Nat.le_of_ble_eq_true rfl) dX9_weigh_11 (c9_isBetween hr2) ?_
    refine j_if_eq (tgt := 26) hF h (by decide) dX9_weigh_14 (fun h => ?_) (fun h => ?_)
    · refine j_iconst (v := (-1 : Int32)) hF (by decide) dX9_weigh_26 ?_
      obtain rfl := ret1 h
      exact j_iret hF hC dX9_weigh_27
    · refine j_iload_n hF rfl 3 rfl dX9_weigh_17 ?_
      refine j_iconst (v := (0 : Int32)) hF (by decide) dX9_weigh_18 ?_
      refine j_iconst (v := (1 : Int32)) hF (by decide) dX9_weigh_19 ?_
      obtain ⟨r3, hr3, h⟩ := bnp_some h
      refine j_callS_i (As := [.int a3, .int (0 : Int32), .int (1 : Int32)]) (st := []) hF rfl mv_9_isBetween bw_2_219 rfl (by decide) (Nat.le_of_ble_eq_true rfl) dX9_weigh_20 (c9_isBetween hr3) ?_
      refine j_if_ne (tgt := 28) hF h (by decide) dX9_weigh_23 (fun h => ?_) (fun h => ?_)
      · refine j_aload_n hF rfl 0 rfl dX9_weigh_28 ?_
        refine gf9_3 hF (by decide) (s_0 E _) rfl bw_1_228 dX9_weigh_29 ?_
        obtain ⟨r4, hr4, h⟩ := bnp_some h
        refine j_callV_i (As := []) (st := []) hF rfl mv_0_isFull (by decide) (s_15 E _) rfl bw_2_237 rfl (by decide) (Nat.le_of_ble_eq_true rfl) dX9_weigh_32 (c0_isFull_15 hr4) ?_
        refine j_if_eq (tgt := 41) hF h (by decide) dX9_weigh_35 (fun h => ?_) (fun h => ?_)
        · refine j_aload_n hF rfl 0 rfl dX9_weigh_41 ?_
          refine gf9_2 hF (by decide) (s_0 E _) rfl bw_1_227 dX9_weigh_42 ?_
          refine j_aload_n hF rfl 0 rfl dX9_weigh_45 ?_
          refine gf9_2 hF (by decide) (s_0 E _) rfl bw_1_227 dX9_weigh_46 ?_
          refine j_iload_n hF rfl 1 rfl dX9_weigh_49 ?_
          obtain ⟨r5, hr5, h⟩ := bnp_some h
          refine j_callV_i (As := [.int a1]) (st := [.ref (eA E 10)]) hF rfl mv_6_loadOf (by decide) (s_10 E _) rfl bw_3_1 rfl (by decide) (Nat.le_of_ble_eq_true rfl) dX9_weigh_50 (c6_loadOf_10 hr5) ?_
          refine j_aload_n hF rfl 0 rfl dX9_weigh_53 ?_
          refine gf9_2 hF (by decide) (s_0 E _) rfl bw_1_227 dX9_weigh_54 ?_
          obtain ⟨r6, hr6, h⟩ := bnp_some h
          refine j_callV_i (As := []) (st := [.int r5, .ref (eA E 10)]) hF rfl mv_6_own (by decide) (s_10 E _) rfl bw_3_5 rfl (by decide) (Nat.le_of_ble_eq_true rfl) dX9_weigh_57 (c6_own_10 hr6) ?_
          refine j_iadd hF dX9_weigh_60 ?_
          refine j_iload_n hF rfl 2 rfl dX9_weigh_61 ?_
          refine j_iadd hF dX9_weigh_62 ?_
          obtain ⟨r7, hr7, h⟩ := bnp_some h
          refine j_callV_i (As := [.int ((r5 + r6) + a2)]) (st := []) hF rfl mv_6_leftOver (by decide) (s_10 E _) rfl bw_3_9 rfl (by decide) (Nat.le_of_ble_eq_true rfl) dX9_weigh_63 (c6_leftOver_10 hr7) ?_
          refine j_istore (lv' := [(4, .int r7), (0, .ref (eA E 0)), (1, .int a1), (2, .int a2), (3, .int a3)]) hF (by decide) rfl dX9_weigh_66 ?_
          refine j_aload_n hF rfl 1 rfl dX9_weigh_68 ?_
          refine gf9_3 hF (by decide) (s_0 E _) rfl bw_1_228 dX9_weigh_69 ?_
          refine j_iload_n hF rfl 2 rfl dX9_weigh_72 ?_
          refine j_iload hF 0 rfl dX9_weigh_73 ?_
          refine j_iload_n hF rfl 4 rfl dX9_weigh_75 ?_
          refine j_iconst (v := (1 : Int32)) hF (by decide) dX9_weigh_76 ?_
          refine j_icmp_ne (tgt := 84) hF h (by decide) dX9_weigh_77 (fun h => ?_) (fun h => ?_)
          · refine j_iconst (v := (2 : Int32)) hF (by decide) dX9_weigh_84 ?_
            refine j_sub (lv' := [(0, .ref (eA E 0)), (4, .int r7)]) hF [1, 0] rfl ?_
            exact t9_weigh_b85 hF h hC
          · refine j_iload_n hF rfl 3 rfl dX9_weigh_80 ?_
            refine j_goto (tgt := 85) hF (by decide) dX9_weigh_81 ?_
            refine j_sub (lv' := [(0, .ref (eA E 0)), (4, .int r7)]) hF [1, 0] rfl ?_
            exact t9_weigh_b85 hF h hC
        · refine j_bipush (v := (-3 : Int32)) hF (by decide) dX9_weigh_38 ?_
          obtain rfl := ret1 h
          exact j_iret hF hC dX9_weigh_40
      · refine j_iconst (v := (-1 : Int32)) hF (by decide) dX9_weigh_26 ?_
        obtain rfl := ret1 h
        exact j_iret hF hC dX9_weigh_27
set_option maxHeartbeats 1000000 in
theorem c9_weigh {E : En} {N : Nat} {a1 : Int32} {a2 : Int32} {a3 : Int32} {S So : Mem} {ro : Int32} (h : f9_weigh N a1 a2 a3 S = some (ro, So)) : CT E yX9_weigh cX9_weigh 5 (some .int) 2 [.ref (eA E 0), .int a1, .int a2, .int a3] S (some (.int ro)) So :=
  CT_of (by decide) (Nat.le_of_ble_eq_true rfl) (fun X hF => t9_weigh hF h rfl)
def f6_figures_10 (N : Nat) (S : Mem) : Option Int32 :=
some (((S 10).1 4))
set_option maxHeartbeats 1000000 in
theorem t6_figures_10 {E : En} {X : Cx} {Q : State → Prop} {N : Nat} {S : Mem} {o : Int32} (hF : Fx E X cX6_figures RX6 1 (some .int) 0) (h : f6_figures_10 N S = some o) (hC : Q = RQ E X (some (.int o)) S) : J E X Q S 0 [(0, .ref (eA E 10))] [] := by
  unfold f6_figures_10 at h
  refine j_aload_n hF rfl 0 rfl dX6_figures_0 ?_
  refine gf6_4 hF (by decide) (s_10 E _) rfl bw_1_68 dX6_figures_1 ?_
  obtain rfl := ret1 h
  exact j_iret hF hC dX6_figures_4
set_option maxHeartbeats 1000000 in
theorem c6_figures_10 {E : En} {N : Nat} {S : Mem} {ro : Int32} (h : f6_figures_10 N S = some ro) : CT E yX6_figures cX6_figures 1 (some .int) 0 [.ref (eA E 10)] S (some (.int ro)) S :=
  CT_of (by decide) (Nat.le_of_ble_eq_true rfl) (fun X hF => t6_figures_10 hF h rfl)
def f0_lines_15 (N : Nat) (S : Mem) : Option Int32 :=
some (((S 15).1 3))
set_option maxHeartbeats 1000000 in
theorem t0_lines_15 {E : En} {X : Cx} {Q : State → Prop} {N : Nat} {S : Mem} {o : Int32} (hF : Fx E X cX0_lines RX0 1 (some .int) 0) (h : f0_lines_15 N S = some o) (hC : Q = RQ E X (some (.int o)) S) : J E X Q S 0 [(0, .ref (eA E 15))] [] := by
  unfold f0_lines_15 at h
  refine j_aload_n hF rfl 0 rfl dX0_lines_0 ?_
  refine gf0_3 hF (by decide) (s_15 E _) rfl bw_1_118 dX0_lines_1 ?_
  obtain rfl := ret1 h
  exact j_iret hF hC dX0_lines_4
set_option maxHeartbeats 1000000 in
theorem c0_lines_15 {E : En} {N : Nat} {S : Mem} {ro : Int32} (h : f0_lines_15 N S = some ro) : CT E yX0_lines cX0_lines 1 (some .int) 0 [.ref (eA E 15)] S (some (.int ro)) S :=
  CT_of (by decide) (Nat.le_of_ble_eq_true rfl) (fun X hF => t0_lines_15 hF h rfl)
def f9_tell (N : Nat) (a1 : Int32) (a2 : Int32) (a3 : Int32) (S : Mem) : Option (Int32 × Mem) :=
bnp (f9_isSet N a1 S) fun r1 =>
if r1 = 0 then
some (((-1 : Int32), S))
else
bnp (f6_figures_10 N S) fun r2 =>
bnp (f9_isBetween N a2 (0 : Int32) (r2 - (1 : Int32)) S) fun r3 =>
if r3 = 0 then
some (((-1 : Int32), S))
else
bnp (f9_isBetween N a3 (0 : Int32) (2 : Int32) S) fun r4 =>
if r4 = 0 then
some (((-1 : Int32), S))
else
bnp (f0_isFull_15 N S) fun r5 =>
if r5 = 0 then
bnd (f0_add_15 N a1 a2 a3 S) fun r6 S7 =>
bnd (f8_forget N S7) fun r8 S9 =>
bnp (f0_lines_15 N S9) fun r10 =>
some ((r10, S9))
else
some (((-3 : Int32), S))
set_option maxHeartbeats 1000000 in
theorem t9_tell {E : En} {X : Cx} {Q : State → Prop} {N : Nat} {a1 : Int32} {a2 : Int32} {a3 : Int32} {S : Mem} {o : (Int32 × Mem)} (hF : Fx E X cX9_tell RX9 4 (some .int) 2) (h : f9_tell N a1 a2 a3 S = some o) (hC : Q = RQ E X (some (.int o.1)) o.2) : J E X Q S 0 [(0, .ref (eA E 0)), (1, .int a1), (2, .int a2), (3, .int a3)] [] := by
  unfold f9_tell at h
  refine j_aload_n hF rfl 0 rfl dX9_tell_0 ?_
  refine j_iload_n hF rfl 1 rfl dX9_tell_1 ?_
  obtain ⟨r1, hr1, h⟩ := bnp_some h
  refine j_callV_i (As := [.int a1]) (st := []) hF rfl mv_9_isSet (by decide) (s_0 E _) rfl bw_2_229 rfl (by decide) (Nat.le_of_ble_eq_true rfl) dX9_tell_2 (c9_isSet hr1) ?_
  refine j_if_eq (tgt := 34) hF h (by decide) dX9_tell_5 (fun h => ?_) (fun h => ?_)
  · refine j_iconst (v := (-1 : Int32)) hF (by decide) dX9_tell_34 ?_
    obtain rfl := ret1 h
    exact j_iret hF hC dX9_tell_35
  · refine j_iload_n hF rfl 2 rfl dX9_tell_8 ?_
    refine j_iconst (v := (0 : Int32)) hF (by decide) dX9_tell_9 ?_
    refine j_aload_n hF rfl 0 rfl dX9_tell_10 ?_
    refine gf9_2 hF (by decide) (s_0 E _) rfl bw_1_227 dX9_tell_11 ?_
    obtain ⟨r2, hr2, h⟩ := bnp_some h
    refine j_callV_i (As := []) (st := [.int (0 : Int32), .int a2]) hF rfl mv_6_figures (by decide) (s_10 E _) rfl bw_3_23 rfl (by decide) (Nat.le_of_ble_eq_true rfl) dX9_tell_14 (c6_figures_10 hr2) ?_
    refine j_iconst (v := (1 : Int32)) hF (by decide) dX9_tell_17 ?_
    refine j_isub hF dX9_tell_18 ?_
    obtain ⟨r3, hr3, h⟩ := bnp_some h
    refine j_callS_i (As := [.int a2, .int (0 : Int32), .int (r2 - (1 : Int32))]) (st := []) hF rfl mv_9_isBetween bw_2_219 rfl (by decide) (Nat.le_of_ble_eq_true rfl) dX9_tell_19 (c9_isBetween hr3) ?_
    refine j_if_eq (tgt := 34) hF h (by decide) dX9_tell_22 (fun h => ?_) (fun h => ?_)
    · refine j_iconst (v := (-1 : Int32)) hF (by decide) dX9_tell_34 ?_
      obtain rfl := ret1 h
      exact j_iret hF hC dX9_tell_35
    · refine j_iload_n hF rfl 3 rfl dX9_tell_25 ?_
      refine j_iconst (v := (0 : Int32)) hF (by decide) dX9_tell_26 ?_
      refine j_iconst (v := (2 : Int32)) hF (by decide) dX9_tell_27 ?_
      obtain ⟨r4, hr4, h⟩ := bnp_some h
      refine j_callS_i (As := [.int a3, .int (0 : Int32), .int (2 : Int32)]) (st := []) hF rfl mv_9_isBetween bw_2_219 rfl (by decide) (Nat.le_of_ble_eq_true rfl) dX9_tell_28 (c9_isBetween hr4) ?_
      refine j_if_ne (tgt := 36) hF h (by decide) dX9_tell_31 (fun h => ?_) (fun h => ?_)
      · refine j_aload_n hF rfl 0 rfl dX9_tell_36 ?_
        refine gf9_3 hF (by decide) (s_0 E _) rfl bw_1_228 dX9_tell_37 ?_
        obtain ⟨r5, hr5, h⟩ := bnp_some h
        refine j_callV_i (As := []) (st := []) hF rfl mv_0_isFull (by decide) (s_15 E _) rfl bw_2_237 rfl (by decide) (Nat.le_of_ble_eq_true rfl) dX9_tell_40 (c0_isFull_15 hr5) ?_
        refine j_if_eq (tgt := 49) hF h (by decide) dX9_tell_43 (fun h => ?_) (fun h => ?_)
        · refine j_aload_n hF rfl 0 rfl dX9_tell_49 ?_
          refine gf9_3 hF (by decide) (s_0 E _) rfl bw_1_228 dX9_tell_50 ?_
          refine j_iload_n hF rfl 1 rfl dX9_tell_53 ?_
          refine j_iload_n hF rfl 2 rfl dX9_tell_54 ?_
          refine j_iload_n hF rfl 3 rfl dX9_tell_55 ?_
          obtain ⟨r6, S7, hr6, h⟩ := bnd_some h
          refine j_callV_v (As := [.int a1, .int a2, .int a3]) (st := []) hF rfl mv_0_add (by decide) (s_15 E _) rfl bw_3_13 rfl (by decide) (Nat.le_of_ble_eq_true rfl) dX9_tell_56 (c0_add_15 hr6) ?_
          refine j_aload_n hF rfl 0 rfl dX9_tell_59 ?_
          refine gf9_7 hF (by decide) (s_0 E _) rfl bw_1_232 dX9_tell_60 ?_
          obtain ⟨r8, S9, hr8, h⟩ := bnd_some h
          refine j_callV_v (As := []) (st := []) hF rfl mv_8_forget (by decide) (s_39 E _) rfl bw_2_201 rfl (by decide) (Nat.le_of_ble_eq_true rfl) dX9_tell_63 (c8_forget hr8) ?_
          refine j_aload_n hF rfl 0 rfl dX9_tell_66 ?_
          refine gf9_3 hF (by decide) (s_0 E _) rfl bw_1_228 dX9_tell_67 ?_
          obtain ⟨r10, hr10, h⟩ := bnp_some h
          refine j_callV_i (As := []) (st := []) hF rfl mv_0_lines (by decide) (s_15 E _) rfl bw_3_27 rfl (by decide) (Nat.le_of_ble_eq_true rfl) dX9_tell_70 (c0_lines_15 hr10) ?_
          obtain rfl := ret1 h
          exact j_iret hF hC dX9_tell_73
        · refine j_bipush (v := (-3 : Int32)) hF (by decide) dX9_tell_46 ?_
          obtain rfl := ret1 h
          exact j_iret hF hC dX9_tell_48
      · refine j_iconst (v := (-1 : Int32)) hF (by decide) dX9_tell_34 ?_
        obtain rfl := ret1 h
        exact j_iret hF hC dX9_tell_35
set_option maxHeartbeats 1000000 in
theorem c9_tell {E : En} {N : Nat} {a1 : Int32} {a2 : Int32} {a3 : Int32} {S So : Mem} {ro : Int32} (h : f9_tell N a1 a2 a3 S = some (ro, So)) : CT E yX9_tell cX9_tell 4 (some .int) 2 [.ref (eA E 0), .int a1, .int a2, .int a3] S (some (.int ro)) So :=
  CT_of (by decide) (Nat.le_of_ble_eq_true rfl) (fun X hF => t9_tell hF h rfl)
def f9_isLine (N : Nat) (a1 : Int32) (S : Mem) : Option Int32 :=
bnp (f0_lines_15 N S) fun r1 =>
bnp (f9_isBetween N a1 (0 : Int32) (r1 - (1 : Int32)) S) fun r2 =>
if r2 = 0 ∨ r2 = 1 then
some (r2) else none
set_option maxHeartbeats 1000000 in
theorem t9_isLine {E : En} {X : Cx} {Q : State → Prop} {N : Nat} {a1 : Int32} {S : Mem} {o : Int32} (hF : Fx E X cX9_isLine RX9 2 (some .boolean) 1) (h : f9_isLine N a1 S = some o) (hC : Q = RQ E X (some (.int o)) S) : J E X Q S 0 [(0, .ref (eA E 0)), (1, .int a1)] [] := by
  unfold f9_isLine at h
  refine j_iload_n hF rfl 1 rfl dX9_isLine_0 ?_
  refine j_iconst (v := (0 : Int32)) hF (by decide) dX9_isLine_1 ?_
  refine j_aload_n hF rfl 0 rfl dX9_isLine_2 ?_
  refine gf9_3 hF (by decide) (s_0 E _) rfl bw_1_228 dX9_isLine_3 ?_
  obtain ⟨r1, hr1, h⟩ := bnp_some h
  refine j_callV_i (As := []) (st := [.int (0 : Int32), .int a1]) hF rfl mv_0_lines (by decide) (s_15 E _) rfl bw_3_27 rfl (by decide) (Nat.le_of_ble_eq_true rfl) dX9_isLine_6 (c0_lines_15 hr1) ?_
  refine j_iconst (v := (1 : Int32)) hF (by decide) dX9_isLine_9 ?_
  refine j_isub hF dX9_isLine_10 ?_
  obtain ⟨r2, hr2, h⟩ := bnp_some h
  refine j_callS_i (As := [.int a1, .int (0 : Int32), .int (r1 - (1 : Int32))]) (st := []) hF rfl mv_9_isBetween bw_2_219 rfl (by decide) (Nat.le_of_ble_eq_true rfl) dX9_isLine_11 (c9_isBetween hr2) ?_
  obtain ⟨hz, h⟩ := zg_some h
  obtain rfl := ret1 h
  exact j_ret_boolean hF (zg_nar hz) hC dX9_isLine_14
set_option maxHeartbeats 1000000 in
theorem c9_isLine {E : En} {N : Nat} {a1 : Int32} {S : Mem} {ro : Int32} (h : f9_isLine N a1 S = some ro) : CT E yX9_isLine cX9_isLine 2 (some .boolean) 1 [.ref (eA E 0), .int a1] S (some (.int ro)) S :=
  CT_of (by decide) (Nat.le_of_ble_eq_true rfl) (fun X hF => t9_isLine hF h rfl)
def f0_setOf_15 (N : Nat) (a1 : Int32) (S : Mem) : Option Int32 :=
bnp (f5_get N 16 12 a1 S) fun r1 =>
some (r1)
set_option maxHeartbeats 1000000 in
theorem t0_setOf_15 {E : En} {X : Cx} {Q : State → Prop} {N : Nat} {a1 : Int32} {S : Mem} {o : Int32} (hF : Fx E X cX0_setOf RX0 2 (some .int) 1) (h : f0_setOf_15 N a1 S = some o) (hC : Q = RQ E X (some (.int o)) S) : J E X Q S 0 [(0, .ref (eA E 15)), (1, .int a1)] [] := by
  unfold f0_setOf_15 at h
  refine j_aload_n hF rfl 0 rfl dX0_setOf_0 ?_
  refine gf0_0 hF (by decide) (s_15 E _) rfl bw_1_115 dX0_setOf_1 ?_
  refine j_iload_n hF rfl 1 rfl dX0_setOf_4 ?_
  obtain ⟨r1, hr1, h⟩ := bnp_some h
  refine j_callV_i (As := [.int a1]) (st := []) hF rfl mv_5_get (by decide) (s_16 E _) rfl bw_3_43 rfl (by decide) (Nat.le_of_ble_eq_true rfl) dX0_setOf_5 (c5_get (ra_16 E) hr1) ?_
  obtain rfl := ret1 h
  exact j_iret hF hC dX0_setOf_8
set_option maxHeartbeats 1000000 in
theorem c0_setOf_15 {E : En} {N : Nat} {a1 : Int32} {S : Mem} {ro : Int32} (h : f0_setOf_15 N a1 S = some ro) : CT E yX0_setOf cX0_setOf 2 (some .int) 1 [.ref (eA E 15), .int a1] S (some (.int ro)) S :=
  CT_of (by decide) (Nat.le_of_ble_eq_true rfl) (fun X hF => t0_setOf_15 hF h rfl)
def f0_shownOf_15 (N : Nat) (a1 : Int32) (S : Mem) : Option Int32 :=
bnp (f5_get N 18 12 a1 S) fun r1 =>
some (r1)
set_option maxHeartbeats 1000000 in
theorem t0_shownOf_15 {E : En} {X : Cx} {Q : State → Prop} {N : Nat} {a1 : Int32} {S : Mem} {o : Int32} (hF : Fx E X cX0_shownOf RX0 2 (some .int) 1) (h : f0_shownOf_15 N a1 S = some o) (hC : Q = RQ E X (some (.int o)) S) : J E X Q S 0 [(0, .ref (eA E 15)), (1, .int a1)] [] := by
  unfold f0_shownOf_15 at h
  refine j_aload_n hF rfl 0 rfl dX0_shownOf_0 ?_
  refine gf0_1 hF (by decide) (s_15 E _) rfl bw_1_116 dX0_shownOf_1 ?_
  refine j_iload_n hF rfl 1 rfl dX0_shownOf_4 ?_
  obtain ⟨r1, hr1, h⟩ := bnp_some h
  refine j_callV_i (As := [.int a1]) (st := []) hF rfl mv_5_get (by decide) (s_18 E _) rfl bw_3_43 rfl (by decide) (Nat.le_of_ble_eq_true rfl) dX0_shownOf_5 (c5_get (ra_18 E) hr1) ?_
  obtain rfl := ret1 h
  exact j_iret hF hC dX0_shownOf_8
set_option maxHeartbeats 1000000 in
theorem c0_shownOf_15 {E : En} {N : Nat} {a1 : Int32} {S : Mem} {ro : Int32} (h : f0_shownOf_15 N a1 S = some ro) : CT E yX0_shownOf cX0_shownOf 2 (some .int) 1 [.ref (eA E 15), .int a1] S (some (.int ro)) S :=
  CT_of (by decide) (Nat.le_of_ble_eq_true rfl) (fun X hF => t0_shownOf_15 hF h rfl)
def f0_laughOf_15 (N : Nat) (a1 : Int32) (S : Mem) : Option Int32 :=
bnp (f5_get N 20 12 a1 S) fun r1 =>
some (r1)
set_option maxHeartbeats 1000000 in
theorem t0_laughOf_15 {E : En} {X : Cx} {Q : State → Prop} {N : Nat} {a1 : Int32} {S : Mem} {o : Int32} (hF : Fx E X cX0_laughOf RX0 2 (some .int) 1) (h : f0_laughOf_15 N a1 S = some o) (hC : Q = RQ E X (some (.int o)) S) : J E X Q S 0 [(0, .ref (eA E 15)), (1, .int a1)] [] := by
  unfold f0_laughOf_15 at h
  refine j_aload_n hF rfl 0 rfl dX0_laughOf_0 ?_
  refine gf0_2 hF (by decide) (s_15 E _) rfl bw_1_117 dX0_laughOf_1 ?_
  refine j_iload_n hF rfl 1 rfl dX0_laughOf_4 ?_
  obtain ⟨r1, hr1, h⟩ := bnp_some h
  refine j_callV_i (As := [.int a1]) (st := []) hF rfl mv_5_get (by decide) (s_20 E _) rfl bw_3_43 rfl (by decide) (Nat.le_of_ble_eq_true rfl) dX0_laughOf_5 (c5_get (ra_20 E) hr1) ?_
  obtain rfl := ret1 h
  exact j_iret hF hC dX0_laughOf_8
set_option maxHeartbeats 1000000 in
theorem c0_laughOf_15 {E : En} {N : Nat} {a1 : Int32} {S : Mem} {ro : Int32} (h : f0_laughOf_15 N a1 S = some ro) : CT E yX0_laughOf cX0_laughOf 2 (some .int) 1 [.ref (eA E 15), .int a1] S (some (.int ro)) S :=
  CT_of (by decide) (Nat.le_of_ble_eq_true rfl) (fun X hF => t0_laughOf_15 hF h rfl)
def f9_line (N : Nat) (a1 : Int32) (a2 : Int32) (S : Mem) : Option Int32 :=
bnp (f9_isLine N a1 S) fun r1 =>
if r1 = 0 then
some ((-1 : Int32))
else
if a2 = (0 : Int32) then
bnp (f0_setOf_15 N a1 S) fun r2 =>
some (r2)
else
if a2 = (1 : Int32) then
bnp (f0_shownOf_15 N a1 S) fun r3 =>
some (r3)
else
if a2 = (2 : Int32) then
bnp (f0_laughOf_15 N a1 S) fun r4 =>
some (r4)
else
some ((-1 : Int32))
set_option maxHeartbeats 1000000 in
theorem t9_line {E : En} {X : Cx} {Q : State → Prop} {N : Nat} {a1 : Int32} {a2 : Int32} {S : Mem} {o : Int32} (hF : Fx E X cX9_line RX9 3 (some .int) 2) (h : f9_line N a1 a2 S = some o) (hC : Q = RQ E X (some (.int o)) S) : J E X Q S 0 [(0, .ref (eA E 0)), (1, .int a1), (2, .int a2)] [] := by
  unfold f9_line at h
  refine j_aload_n hF rfl 0 rfl dX9_line_0 ?_
  refine j_iload_n hF rfl 1 rfl dX9_line_1 ?_
  obtain ⟨r1, hr1, h⟩ := bnp_some h
  refine j_callV_i (As := [.int a1]) (st := []) hF rfl mv_9_isLine (by decide) (s_0 E _) rfl bw_3_35 rfl (by decide) (Nat.le_of_ble_eq_true rfl) dX9_line_2 (c9_isLine hr1) ?_
  refine j_if_ne (tgt := 10) hF h (by decide) dX9_line_5 (fun h => ?_) (fun h => ?_)
  · refine j_iload_n hF rfl 2 rfl dX9_line_10 ?_
    by_cases c0 : a2 = (0 : Int32)
    · rw [if_pos c0] at h
      refine j_tswIn (tgt := 36) hF c0 (by decide) (by decide) rfl (by decide) dX9_line_11 ?_
      refine j_aload_n hF rfl 0 rfl dX9_line_36 ?_
      refine gf9_3 hF (by decide) (s_0 E _) rfl bw_1_228 dX9_line_37 ?_
      refine j_iload_n hF rfl 1 rfl dX9_line_40 ?_
      obtain ⟨r2, hr2, h⟩ := bnp_some h
      refine j_callV_i (As := [.int a1]) (st := []) hF rfl mv_0_setOf (by decide) (s_15 E _) rfl bw_3_39 rfl (by decide) (Nat.le_of_ble_eq_true rfl) dX9_line_41 (c0_setOf_15 hr2) ?_
      obtain rfl := ret1 h
      exact j_iret hF hC dX9_line_44
    · rw [if_neg c0] at h
      by_cases c1 : a2 = (1 : Int32)
      · rw [if_pos c1] at h
        refine j_tswIn (tgt := 45) hF c1 (by decide) (by decide) rfl (by decide) dX9_line_11 ?_
        refine j_aload_n hF rfl 0 rfl dX9_line_45 ?_
        refine gf9_3 hF (by decide) (s_0 E _) rfl bw_1_228 dX9_line_46 ?_
        refine j_iload_n hF rfl 1 rfl dX9_line_49 ?_
        obtain ⟨r3, hr3, h⟩ := bnp_some h
        refine j_callV_i (As := [.int a1]) (st := []) hF rfl mv_0_shownOf (by decide) (s_15 E _) rfl bw_3_44 rfl (by decide) (Nat.le_of_ble_eq_true rfl) dX9_line_50 (c0_shownOf_15 hr3) ?_
        obtain rfl := ret1 h
        exact j_iret hF hC dX9_line_53
      · rw [if_neg c1] at h
        by_cases c2 : a2 = (2 : Int32)
        · rw [if_pos c2] at h
          refine j_tswIn (tgt := 54) hF c2 (by decide) (by decide) rfl (by decide) dX9_line_11 ?_
          refine j_aload_n hF rfl 0 rfl dX9_line_54 ?_
          refine gf9_3 hF (by decide) (s_0 E _) rfl bw_1_228 dX9_line_55 ?_
          refine j_iload_n hF rfl 1 rfl dX9_line_58 ?_
          obtain ⟨r4, hr4, h⟩ := bnp_some h
          refine j_callV_i (As := [.int a1]) (st := []) hF rfl mv_0_laughOf (by decide) (s_15 E _) rfl bw_3_48 rfl (by decide) (Nat.le_of_ble_eq_true rfl) dX9_line_59 (c0_laughOf_15 hr4) ?_
          obtain rfl := ret1 h
          exact j_iret hF hC dX9_line_62
        · rw [if_neg c2] at h
          have e0 : a2.toInt ≠ 0 := ne_toInt c0
          have e1 : a2.toInt ≠ 1 := ne_toInt c1
          have e2 : a2.toInt ≠ 2 := ne_toInt c2
          refine j_tswOut (tgt := 63) hF (by omega) (by decide) dX9_line_11 ?_
          refine j_iconst (v := (-1 : Int32)) hF (by decide) dX9_line_63 ?_
          obtain rfl := ret1 h
          exact j_iret hF hC dX9_line_64
  · refine j_iconst (v := (-1 : Int32)) hF (by decide) dX9_line_8 ?_
    obtain rfl := ret1 h
    exact j_iret hF hC dX9_line_9
set_option maxHeartbeats 1000000 in
theorem c9_line {E : En} {N : Nat} {a1 : Int32} {a2 : Int32} {S : Mem} {ro : Int32} (h : f9_line N a1 a2 S = some ro) : CT E yX9_line cX9_line 3 (some .int) 2 [.ref (eA E 0), .int a1, .int a2] S (some (.int ro)) S :=
  CT_of (by decide) (Nat.le_of_ble_eq_true rfl) (fun X hF => t9_line hF h rfl)
def f0_dropLatest_15 (N : Nat) (S : Mem) : Option (Unit × Mem) :=
if ((S 15).1 3) ≤ 0 then
some (((), S))
else
lt_ (wr S 15 3 (((S 15).1 3) - (1 : Int32))) fun S1 =>
some (((), S1))
set_option maxHeartbeats 1000000 in
theorem t0_dropLatest_15 {E : En} {X : Cx} {Q : State → Prop} {N : Nat} {S : Mem} {o : (Unit × Mem)} (hF : Fx E X cX0_dropLatest RX0 1 none 0) (h : f0_dropLatest_15 N S = some o) (hC : Q = RQ E X (none) o.2) : J E X Q S 0 [(0, .ref (eA E 15))] [] := by
  unfold f0_dropLatest_15 at h
  refine j_aload_n hF rfl 0 rfl dX0_dropLatest_0 ?_
  refine gf0_3 hF (by decide) (s_15 E _) rfl bw_1_118 dX0_dropLatest_1 ?_
  refine j_if_le (tgt := 17) hF h (by decide) dX0_dropLatest_4 (fun h => ?_) (fun h => ?_)
  · obtain rfl := ret1 h
    exact j_vret hF hC dX0_dropLatest_17
  · refine j_aload_n hF rfl 0 rfl dX0_dropLatest_7 ?_
    refine j_dup hF rfl dX0_dropLatest_8 ?_
    refine gf0_3 hF (by decide) (s_15 E _) rfl bw_1_118 dX0_dropLatest_9 ?_
    refine j_iconst (v := (1 : Int32)) hF (by decide) dX0_dropLatest_12 ?_
    refine j_isub hF dX0_dropLatest_13 ?_
    refine pf0_3 hF (by decide) (s_15 E _) (s_15 E _) (Nat.le_of_ble_eq_true rfl) bw_1_118 dX0_dropLatest_14 ?_
    refine j_nmM h (fun S1 h => ?_)
    obtain rfl := ret1 h
    exact j_vret hF hC dX0_dropLatest_17
set_option maxHeartbeats 1000000 in
theorem c0_dropLatest_15 {E : En} {N : Nat} {S So : Mem} {ro : Unit} (h : f0_dropLatest_15 N S = some (ro, So)) : CT E yX0_dropLatest cX0_dropLatest 1 none 0 [.ref (eA E 15)] S (none) So :=
  CT_of (by decide) (Nat.le_of_ble_eq_true rfl) (fun X hF => t0_dropLatest_15 hF h rfl)
def f9_undo (N : Nat) (S : Mem) : Option (Int32 × Mem) :=
bnp (f0_lines_15 N S) fun r1 =>
if r1 = 0 then
some (((-2 : Int32), S))
else
bnd (f0_dropLatest_15 N S) fun r2 S3 =>
bnd (f8_forget N S3) fun r4 S5 =>
bnp (f0_lines_15 N S5) fun r6 =>
some ((r6, S5))
set_option maxHeartbeats 1000000 in
theorem t9_undo {E : En} {X : Cx} {Q : State → Prop} {N : Nat} {S : Mem} {o : (Int32 × Mem)} (hF : Fx E X cX9_undo RX9 1 (some .int) 1) (h : f9_undo N S = some o) (hC : Q = RQ E X (some (.int o.1)) o.2) : J E X Q S 0 [(0, .ref (eA E 0))] [] := by
  unfold f9_undo at h
  refine j_aload_n hF rfl 0 rfl dX9_undo_0 ?_
  refine gf9_3 hF (by decide) (s_0 E _) rfl bw_1_228 dX9_undo_1 ?_
  obtain ⟨r1, hr1, h⟩ := bnp_some h
  refine j_callV_i (As := []) (st := []) hF rfl mv_0_lines (by decide) (s_15 E _) rfl bw_3_27 rfl (by decide) (Nat.le_of_ble_eq_true rfl) dX9_undo_4 (c0_lines_15 hr1) ?_
  refine j_if_ne (tgt := 13) hF h (by decide) dX9_undo_7 (fun h => ?_) (fun h => ?_)
  · refine j_aload_n hF rfl 0 rfl dX9_undo_13 ?_
    refine gf9_3 hF (by decide) (s_0 E _) rfl bw_1_228 dX9_undo_14 ?_
    obtain ⟨r2, S3, hr2, h⟩ := bnd_some h
    refine j_callV_v (As := []) (st := []) hF rfl mv_0_dropLatest (by decide) (s_15 E _) rfl bw_3_56 rfl (by decide) (Nat.le_of_ble_eq_true rfl) dX9_undo_17 (c0_dropLatest_15 hr2) ?_
    refine j_aload_n hF rfl 0 rfl dX9_undo_20 ?_
    refine gf9_7 hF (by decide) (s_0 E _) rfl bw_1_232 dX9_undo_21 ?_
    obtain ⟨r4, S5, hr4, h⟩ := bnd_some h
    refine j_callV_v (As := []) (st := []) hF rfl mv_8_forget (by decide) (s_39 E _) rfl bw_2_201 rfl (by decide) (Nat.le_of_ble_eq_true rfl) dX9_undo_24 (c8_forget hr4) ?_
    refine j_aload_n hF rfl 0 rfl dX9_undo_27 ?_
    refine gf9_3 hF (by decide) (s_0 E _) rfl bw_1_228 dX9_undo_28 ?_
    obtain ⟨r6, hr6, h⟩ := bnp_some h
    refine j_callV_i (As := []) (st := []) hF rfl mv_0_lines (by decide) (s_15 E _) rfl bw_3_27 rfl (by decide) (Nat.le_of_ble_eq_true rfl) dX9_undo_31 (c0_lines_15 hr6) ?_
    obtain rfl := ret1 h
    exact j_iret hF hC dX9_undo_34
  · refine j_bipush (v := (-2 : Int32)) hF (by decide) dX9_undo_10 ?_
    obtain rfl := ret1 h
    exact j_iret hF hC dX9_undo_12
set_option maxHeartbeats 1000000 in
theorem c9_undo {E : En} {N : Nat} {S So : Mem} {ro : Int32} (h : f9_undo N S = some (ro, So)) : CT E yX9_undo cX9_undo 1 (some .int) 1 [.ref (eA E 0)] S (some (.int ro)) So :=
  CT_of (by decide) (Nat.le_of_ble_eq_true rfl) (fun X hF => t9_undo hF h rfl)
def f5_wipe_L2 (N : Nat) (k n : Nat) (v1 : Int32) (S : Mem) : Option ((Int32 × Mem) ⊕ (Mem)) :=
if (nI n) ≤ v1 then
some (.inr (S))
else
if v1 < 0 ∨ n ≤ v1.toNatClampNeg then none else
lt_ (wr S (k + 1) v1.toNatClampNeg (0 : Int32)) fun S1 =>
lt_ (v1 + (1 : Int32)) fun x2 =>
some (.inl (x2, S1))
def f5_wipe_b24 (N : Nat) (k n : Nat) (S : Mem) : Option (Unit × Mem) :=
some (((), S))
def f5_wipe (N : Nat) (k n : Nat) (S : Mem) : Option (Unit × Mem) :=
bnp (lp N (fun s => f5_wipe_L2 N k n s.1 s.2) ((0 : Int32), S)) fun z3 =>
f5_wipe_b24 N k n z3
set_option maxHeartbeats 1000000 in
theorem t5_wipe_L2 {E : En} {X : Cx} {Q : State → Prop} {N : Nat} {k n : Nat} {v1 : Int32} {S : Mem} {o : ((Int32 × Mem) ⊕ (Mem))} (hr : RowAt E k n) (hF : Fx E X cX5_wipe RX5 2 none 0) (h : f5_wipe_L2 N k n v1 S = some o) (hC : Sum.elim (fun (s : (Int32 × Mem)) => J E X Q s.2 2 [(0, .ref (eA E k)), (1, .int s.1)] []) (fun (x : (Mem)) => J E X Q x 24 [] []) o) : J E X Q S 2 [(0, .ref (eA E k)), (1, .int v1)] [] := by
  unfold f5_wipe_L2 at h
  refine j_iload_n hF rfl 1 rfl dX5_wipe_2 ?_
  refine j_aload_n hF rfl 0 rfl dX5_wipe_3 ?_
  refine gf5_0 hF (rk0 hr) (hr.2.1 _) rfl bw_1_38 dX5_wipe_4 ?_
  refine j_alen (t0 := 0) hF (rk1 hr) (hr.2.2 _) rfl rfl dX5_wipe_7 ?_
  refine j_icmp_ge (tgt := 24) hF h (by decide) dX5_wipe_8 (fun h => ?_) (fun h => ?_)
  · obtain rfl := ret1 h
    refine j_sub (lv' := []) hF [] rfl ?_
    exact hC
  · refine j_aload_n hF rfl 0 rfl dX5_wipe_11 ?_
    refine gf5_0 hF (rk0 hr) (hr.2.1 _) rfl bw_1_38 dX5_wipe_12 ?_
    refine j_iload_n hF rfl 1 rfl dX5_wipe_15 ?_
    refine j_iconst (v := (0 : Int32)) hF (by decide) dX5_wipe_16 ?_
    refine j_iast hF (rk1 hr) hr.2.2 h dX5_wipe_17 (fun h => ?_)
    refine j_nmM h (fun S1 h => ?_)
    refine j_iinc (v := (v1 + (1 : Int32))) (lv' := [(1, .int (v1 + (1 : Int32))), (0, .ref (eA E k))]) (q := 1) hF rfl (congrArg (fun z => v1 + z) (by decide)) (by decide) rfl dX5_wipe_18 ?_
    refine j_nmL h (fun x2 h => ?_)
    refine j_goto (tgt := 2) hF (by decide) dX5_wipe_21 ?_
    obtain rfl := ret1 h
    refine j_sub (lv' := [(0, .ref (eA E k)), (1, .int x2)]) hF [1, 0] rfl ?_
    exact hC
set_option maxHeartbeats 1000000 in
theorem t5_wipe_b24 {E : En} {X : Cx} {Q : State → Prop} {N : Nat} {k n : Nat} {S : Mem} {o : (Unit × Mem)} (hr : RowAt E k n) (hF : Fx E X cX5_wipe RX5 2 none 0) (h : f5_wipe_b24 N k n S = some o) (hC : Q = RQ E X (none) o.2) : J E X Q S 24 [] [] := by
  unfold f5_wipe_b24 at h
  obtain rfl := ret1 h
  exact j_vret hF hC dX5_wipe_24
set_option maxHeartbeats 1000000 in
theorem t5_wipe {E : En} {X : Cx} {Q : State → Prop} {N : Nat} {k n : Nat} {S : Mem} {o : (Unit × Mem)} (hr : RowAt E k n) (hF : Fx E X cX5_wipe RX5 2 none 0) (h : f5_wipe N k n S = some o) (hC : Q = RQ E X (none) o.2) : J E X Q S 0 [(0, .ref (eA E k))] [] := by
  unfold f5_wipe at h
  refine j_iconst (v := (0 : Int32)) hF (by decide) dX5_wipe_0 ?_
  refine j_istore_n (lv' := [(1, .int (0 : Int32)), (0, .ref (eA E k))]) hF rfl (by decide) rfl dX5_wipe_1 ?_
  obtain ⟨z3, hz3, h⟩ := bnp_some h
  refine j_sub (lv' := [(0, .ref (eA E k)), (1, .int (0 : Int32))]) hF [1, 0] rfl ?_
  have hx : (fun (x : (Mem)) => J E X Q x 24 [] []) z3 := by
    exact t5_wipe_b24 hr hF h hC
  exact lp_rule (Jh := fun (s : (Int32 × Mem)) => J E X Q s.2 2 [(0, .ref (eA E k)), (1, .int s.1)] []) (C := fun (x : (Mem)) => J E X Q x 24 [] []) (fun s o h hC => t5_wipe_L2 hr hF h hC) N ((0 : Int32), S) z3 hz3 hx
set_option maxHeartbeats 1000000 in
theorem c5_wipe {E : En} {N : Nat} {k n : Nat} {S So : Mem} {ro : Unit} (hr : RowAt E k n) (h : f5_wipe N k n S = some (ro, So)) : CT E yX5_wipe cX5_wipe 2 none 0 [.ref (eA E k)] S (none) So :=
  CT_of (by decide) (Nat.le_of_ble_eq_true rfl) (fun X hF => t5_wipe hr hF h rfl)
def f8_codeOf_b101 (N : Nat) (v1 : Int32) (v3 : Int32) (v5 : Int32) (w0 : Int32) (S : Mem) : Option Int32 :=
if v3 = (2 : Int32) then
if v5 = 0 then
some (w0)
else
some ((w0 ||| ((1 : Int32) <<< (((12 : Int32) + v1) &&& 31))))
else
some (w0)
def f8_codeOf_b87 (N : Nat) (v1 : Int32) (v3 : Int32) (v5 : Int32) (w0 : Int32) (S : Mem) : Option Int32 :=
if w0 = 0 then
f8_codeOf_b101 N v1 v3 v5 ((1 : Int32) <<< (v1 &&& 31)) S
else
f8_codeOf_b101 N v1 v3 v5 (0 : Int32) S
def f8_codeOf_b86 (N : Nat) (v1 : Int32) (v3 : Int32) (v5 : Int32) (S : Mem) : Option Int32 :=
f8_codeOf_b87 N v1 v3 v5 (0 : Int32) S
def f8_codeOf_b82 (N : Nat) (v1 : Int32) (v3 : Int32) (v5 : Int32) (S : Mem) : Option Int32 :=
f8_codeOf_b87 N v1 v3 v5 (1 : Int32) S
def f8_codeOf_b73 (N : Nat) (v1 : Int32) (v3 : Int32) (v5 : Int32) (S : Mem) : Option Int32 :=
if v3 = 0 then
f8_codeOf_b86 N v1 v3 v5 S
else
if v5 = 0 then
f8_codeOf_b86 N v1 v3 v5 S
else
f8_codeOf_b82 N v1 v3 v5 S
def f8_codeOf_b61 (N : Nat) (v1 : Int32) (v3 : Int32) (v4 : Int32) (w0 : Int32) (S : Mem) : Option Int32 :=
if v3 = (1 : Int32) then
f8_codeOf_b73 N v1 v3 w0 S
else
if v4 = 0 then
f8_codeOf_b73 N v1 v3 w0 S
else
f8_codeOf_b82 N v1 v3 w0 S
def f8_codeOf_b33 (N : Nat) (v1 : Int32) (v2 : Int32) (v3 : Int32) (w0 : Int32) (S : Mem) : Option Int32 :=
bnp (f6_leftOver_10 N (v2 + (1 : Int32)) S) fun r4 =>
bnp (f0_shownOf_15 N v1 S) fun r5 =>
if r4 = r5 then
f8_codeOf_b61 N v1 v3 w0 (1 : Int32) S
else
f8_codeOf_b61 N v1 v3 w0 (0 : Int32) S
def f8_codeOf (N : Nat) (a1 : Int32) (a2 : Int32) (S : Mem) : Option Int32 :=
bnp (f0_laughOf_15 N a1 S) fun r1 =>
bnp (f6_leftOver_10 N a2 S) fun r2 =>
bnp (f0_shownOf_15 N a1 S) fun r3 =>
if r2 = r3 then
f8_codeOf_b33 N a1 a2 r1 (1 : Int32) S
else
f8_codeOf_b33 N a1 a2 r1 (0 : Int32) S
set_option maxHeartbeats 1000000 in
theorem t8_codeOf_b101 {E : En} {X : Cx} {Q : State → Prop} {N : Nat} {v1 : Int32} {v3 : Int32} {v5 : Int32} {w0 : Int32} {S : Mem} {o : Int32} (hF : Fx E X cX8_codeOf RX8 8 (some .int) 2) (h : f8_codeOf_b101 N v1 v3 v5 w0 S = some o) (hC : Q = RQ E X (some (.int o)) S) : J E X Q S 101 [(1, .int v1), (3, .int v3), (5, .int v5)] [.int w0] := by
  unfold f8_codeOf_b101 at h
  refine j_istore (lv' := [(7, .int w0), (1, .int v1), (3, .int v3), (5, .int v5)]) hF (by decide) rfl dX8_codeOf_101 ?_
  refine j_iload_n hF rfl 2 rfl dX8_codeOf_103 ?_
  refine j_iconst (v := (2 : Int32)) hF (by decide) dX8_codeOf_104 ?_
  refine j_icmp_ne (tgt := 125) hF h (by decide) dX8_codeOf_105 (fun h => ?_) (fun h => ?_)
  · refine j_iload hF 0 rfl dX8_codeOf_125 ?_
    obtain rfl := ret1 h
    exact j_iret hF hC dX8_codeOf_127
  · refine j_iload hF 3 rfl dX8_codeOf_108 ?_
    refine j_if_eq (tgt := 125) hF h (by decide) dX8_codeOf_110 (fun h => ?_) (fun h => ?_)
    · refine j_iload hF 0 rfl dX8_codeOf_125 ?_
      obtain rfl := ret1 h
      exact j_iret hF hC dX8_codeOf_127
    · refine j_iload hF 0 rfl dX8_codeOf_113 ?_
      refine j_iconst (v := (1 : Int32)) hF (by decide) dX8_codeOf_115 ?_
      refine j_bipush (v := (12 : Int32)) hF (by decide) dX8_codeOf_116 ?_
      refine j_iload_n hF rfl 1 rfl dX8_codeOf_118 ?_
      refine j_iadd hF dX8_codeOf_119 ?_
      refine j_ishl hF dX8_codeOf_120 ?_
      refine j_ior hF dX8_codeOf_121 ?_
      refine j_goto (tgt := 127) hF (by decide) dX8_codeOf_122 ?_
      obtain rfl := ret1 h
      exact j_iret hF hC dX8_codeOf_127
set_option maxHeartbeats 1000000 in
theorem t8_codeOf_b87 {E : En} {X : Cx} {Q : State → Prop} {N : Nat} {v1 : Int32} {v3 : Int32} {v5 : Int32} {w0 : Int32} {S : Mem} {o : Int32} (hF : Fx E X cX8_codeOf RX8 8 (some .int) 2) (h : f8_codeOf_b87 N v1 v3 v5 w0 S = some o) (hC : Q = RQ E X (some (.int o)) S) : J E X Q S 87 [(1, .int v1), (3, .int v3), (5, .int v5)] [.int w0] := by
  unfold f8_codeOf_b87 at h
  refine j_istore (lv' := [(6, .int w0), (1, .int v1), (3, .int v3), (5, .int v5)]) hF (by decide) rfl dX8_codeOf_87 ?_
  refine j_iload hF 0 rfl dX8_codeOf_89 ?_
  refine j_if_eq (tgt := 98) hF h (by decide) dX8_codeOf_91 (fun h => ?_) (fun h => ?_)
  · refine j_iconst (v := (1 : Int32)) hF (by decide) dX8_codeOf_98 ?_
    refine j_iload_n hF rfl 1 rfl dX8_codeOf_99 ?_
    refine j_ishl hF dX8_codeOf_100 ?_
    refine j_sub (lv' := [(1, .int v1), (3, .int v3), (5, .int v5)]) hF [1, 2, 3] rfl ?_
    exact t8_codeOf_b101 hF h hC
  · refine j_iconst (v := (0 : Int32)) hF (by decide) dX8_codeOf_94 ?_
    refine j_goto (tgt := 101) hF (by decide) dX8_codeOf_95 ?_
    refine j_sub (lv' := [(1, .int v1), (3, .int v3), (5, .int v5)]) hF [1, 2, 3] rfl ?_
    exact t8_codeOf_b101 hF h hC
set_option maxHeartbeats 1000000 in
theorem t8_codeOf_b86 {E : En} {X : Cx} {Q : State → Prop} {N : Nat} {v1 : Int32} {v3 : Int32} {v5 : Int32} {S : Mem} {o : Int32} (hF : Fx E X cX8_codeOf RX8 8 (some .int) 2) (h : f8_codeOf_b86 N v1 v3 v5 S = some o) (hC : Q = RQ E X (some (.int o)) S) : J E X Q S 86 [(1, .int v1), (3, .int v3), (5, .int v5)] [] := by
  unfold f8_codeOf_b86 at h
  refine j_iconst (v := (0 : Int32)) hF (by decide) dX8_codeOf_86 ?_
  exact t8_codeOf_b87 hF h hC
set_option maxHeartbeats 1000000 in
theorem t8_codeOf_b82 {E : En} {X : Cx} {Q : State → Prop} {N : Nat} {v1 : Int32} {v3 : Int32} {v5 : Int32} {S : Mem} {o : Int32} (hF : Fx E X cX8_codeOf RX8 8 (some .int) 2) (h : f8_codeOf_b82 N v1 v3 v5 S = some o) (hC : Q = RQ E X (some (.int o)) S) : J E X Q S 82 [(1, .int v1), (3, .int v3), (5, .int v5)] [] := by
  unfold f8_codeOf_b82 at h
  refine j_iconst (v := (1 : Int32)) hF (by decide) dX8_codeOf_82 ?_
  refine j_goto (tgt := 87) hF (by decide) dX8_codeOf_83 ?_
  exact t8_codeOf_b87 hF h hC
set_option maxHeartbeats 1000000 in
theorem t8_codeOf_b73 {E : En} {X : Cx} {Q : State → Prop} {N : Nat} {v1 : Int32} {v3 : Int32} {v5 : Int32} {S : Mem} {o : Int32} (hF : Fx E X cX8_codeOf RX8 8 (some .int) 2) (h : f8_codeOf_b73 N v1 v3 v5 S = some o) (hC : Q = RQ E X (some (.int o)) S) : J E X Q S 73 [(1, .int v1), (3, .int v3), (5, .int v5)] [] := by
  unfold f8_codeOf_b73 at h
  refine j_iload_n hF rfl 1 rfl dX8_codeOf_73 ?_
  refine j_if_eq (tgt := 86) hF h (by decide) dX8_codeOf_74 (fun h => ?_) (fun h => ?_)
  · exact t8_codeOf_b86 hF h hC
  · refine j_iload hF 2 rfl dX8_codeOf_77 ?_
    refine j_if_eq (tgt := 86) hF h (by decide) dX8_codeOf_79 (fun h => ?_) (fun h => ?_)
    · exact t8_codeOf_b86 hF h hC
    · exact t8_codeOf_b82 hF h hC
set_option maxHeartbeats 1000000 in
theorem t8_codeOf_b61 {E : En} {X : Cx} {Q : State → Prop} {N : Nat} {v1 : Int32} {v3 : Int32} {v4 : Int32} {w0 : Int32} {S : Mem} {o : Int32} (hF : Fx E X cX8_codeOf RX8 8 (some .int) 2) (h : f8_codeOf_b61 N v1 v3 v4 w0 S = some o) (hC : Q = RQ E X (some (.int o)) S) : J E X Q S 61 [(1, .int v1), (3, .int v3), (4, .int v4)] [.int w0] := by
  unfold f8_codeOf_b61 at h
  refine j_istore (lv' := [(5, .int w0), (1, .int v1), (3, .int v3), (4, .int v4)]) hF (by decide) rfl dX8_codeOf_61 ?_
  refine j_iload_n hF rfl 2 rfl dX8_codeOf_63 ?_
  refine j_iconst (v := (1 : Int32)) hF (by decide) dX8_codeOf_64 ?_
  refine j_icmp_eq (tgt := 73) hF h (by decide) dX8_codeOf_65 (fun h => ?_) (fun h => ?_)
  · refine j_sub (lv' := [(1, .int v1), (3, .int v3), (5, .int w0)]) hF [1, 2, 0] rfl ?_
    exact t8_codeOf_b73 hF h hC
  · refine j_iload hF 3 rfl dX8_codeOf_68 ?_
    refine j_if_ne (tgt := 82) hF h (by decide) dX8_codeOf_70 (fun h => ?_) (fun h => ?_)
    · refine j_sub (lv' := [(1, .int v1), (3, .int v3), (5, .int w0)]) hF [1, 2, 0] rfl ?_
      exact t8_codeOf_b82 hF h hC
    · refine j_sub (lv' := [(1, .int v1), (3, .int v3), (5, .int w0)]) hF [1, 2, 0] rfl ?_
      exact t8_codeOf_b73 hF h hC
set_option maxHeartbeats 1000000 in
theorem t8_codeOf_b33 {E : En} {X : Cx} {Q : State → Prop} {N : Nat} {v1 : Int32} {v2 : Int32} {v3 : Int32} {w0 : Int32} {S : Mem} {o : Int32} (hF : Fx E X cX8_codeOf RX8 8 (some .int) 2) (h : f8_codeOf_b33 N v1 v2 v3 w0 S = some o) (hC : Q = RQ E X (some (.int o)) S) : J E X Q S 33 [(0, .ref (eA E 39)), (1, .int v1), (2, .int v2), (3, .int v3)] [.int w0] := by
  unfold f8_codeOf_b33 at h
  refine j_istore (lv' := [(4, .int w0), (0, .ref (eA E 39)), (1, .int v1), (2, .int v2), (3, .int v3)]) hF (by decide) rfl dX8_codeOf_33 ?_
  refine j_aload_n hF rfl 1 rfl dX8_codeOf_35 ?_
  refine gf8_0 hF (by decide) (s_39 E _) rfl bw_1_167 dX8_codeOf_36 ?_
  refine j_iload_n hF rfl 3 rfl dX8_codeOf_39 ?_
  refine j_iconst (v := (1 : Int32)) hF (by decide) dX8_codeOf_40 ?_
  refine j_iadd hF dX8_codeOf_41 ?_
  obtain ⟨r4, hr4, h⟩ := bnp_some h
  refine j_callV_i (As := [.int (v2 + (1 : Int32))]) (st := []) hF rfl mv_6_leftOver (by decide) (s_10 E _) rfl bw_3_87 rfl (by decide) (Nat.le_of_ble_eq_true rfl) dX8_codeOf_42 (c6_leftOver_10 hr4) ?_
  refine j_aload_n hF rfl 1 rfl dX8_codeOf_45 ?_
  refine gf8_1 hF (by decide) (s_39 E _) rfl bw_1_168 dX8_codeOf_46 ?_
  refine j_iload_n hF rfl 2 rfl dX8_codeOf_49 ?_
  obtain ⟨r5, hr5, h⟩ := bnp_some h
  refine j_callV_i (As := [.int v1]) (st := [.int r4]) hF rfl mv_0_shownOf (by decide) (s_15 E _) rfl bw_3_88 rfl (by decide) (Nat.le_of_ble_eq_true rfl) dX8_codeOf_50 (c0_shownOf_15 hr5) ?_
  refine j_icmp_ne (tgt := 60) hF h (by decide) dX8_codeOf_53 (fun h => ?_) (fun h => ?_)
  · refine j_iconst (v := (0 : Int32)) hF (by decide) dX8_codeOf_60 ?_
    refine j_sub (lv' := [(1, .int v1), (3, .int v3), (4, .int w0)]) hF [2, 4, 0] rfl ?_
    exact t8_codeOf_b61 hF h hC
  · refine j_iconst (v := (1 : Int32)) hF (by decide) dX8_codeOf_56 ?_
    refine j_goto (tgt := 61) hF (by decide) dX8_codeOf_57 ?_
    refine j_sub (lv' := [(1, .int v1), (3, .int v3), (4, .int w0)]) hF [2, 4, 0] rfl ?_
    exact t8_codeOf_b61 hF h hC
set_option maxHeartbeats 1000000 in
theorem t8_codeOf {E : En} {X : Cx} {Q : State → Prop} {N : Nat} {a1 : Int32} {a2 : Int32} {S : Mem} {o : Int32} (hF : Fx E X cX8_codeOf RX8 8 (some .int) 2) (h : f8_codeOf N a1 a2 S = some o) (hC : Q = RQ E X (some (.int o)) S) : J E X Q S 0 [(0, .ref (eA E 39)), (1, .int a1), (2, .int a2)] [] := by
  unfold f8_codeOf at h
  refine j_aload_n hF rfl 0 rfl dX8_codeOf_0 ?_
  refine gf8_1 hF (by decide) (s_39 E _) rfl bw_1_168 dX8_codeOf_1 ?_
  refine j_iload_n hF rfl 1 rfl dX8_codeOf_4 ?_
  obtain ⟨r1, hr1, h⟩ := bnp_some h
  refine j_callV_i (As := [.int a1]) (st := []) hF rfl mv_0_laughOf (by decide) (s_15 E _) rfl bw_3_86 rfl (by decide) (Nat.le_of_ble_eq_true rfl) dX8_codeOf_5 (c0_laughOf_15 hr1) ?_
  refine j_istore_n (lv' := [(3, .int r1), (0, .ref (eA E 39)), (1, .int a1), (2, .int a2)]) hF rfl (by decide) rfl dX8_codeOf_8 ?_
  refine j_aload_n hF rfl 1 rfl dX8_codeOf_9 ?_
  refine gf8_0 hF (by decide) (s_39 E _) rfl bw_1_167 dX8_codeOf_10 ?_
  refine j_iload_n hF rfl 3 rfl dX8_codeOf_13 ?_
  obtain ⟨r2, hr2, h⟩ := bnp_some h
  refine j_callV_i (As := [.int a2]) (st := []) hF rfl mv_6_leftOver (by decide) (s_10 E _) rfl bw_3_87 rfl (by decide) (Nat.le_of_ble_eq_true rfl) dX8_codeOf_14 (c6_leftOver_10 hr2) ?_
  refine j_aload_n hF rfl 1 rfl dX8_codeOf_17 ?_
  refine gf8_1 hF (by decide) (s_39 E _) rfl bw_1_168 dX8_codeOf_18 ?_
  refine j_iload_n hF rfl 2 rfl dX8_codeOf_21 ?_
  obtain ⟨r3, hr3, h⟩ := bnp_some h
  refine j_callV_i (As := [.int a1]) (st := [.int r2]) hF rfl mv_0_shownOf (by decide) (s_15 E _) rfl bw_3_88 rfl (by decide) (Nat.le_of_ble_eq_true rfl) dX8_codeOf_22 (c0_shownOf_15 hr3) ?_
  refine j_icmp_ne (tgt := 32) hF h (by decide) dX8_codeOf_25 (fun h => ?_) (fun h => ?_)
  · refine j_iconst (v := (0 : Int32)) hF (by decide) dX8_codeOf_32 ?_
    refine j_sub (lv' := [(0, .ref (eA E 39)), (1, .int a1), (2, .int a2), (3, .int r1)]) hF [1, 2, 3, 0] rfl ?_
    exact t8_codeOf_b33 hF h hC
  · refine j_iconst (v := (1 : Int32)) hF (by decide) dX8_codeOf_28 ?_
    refine j_goto (tgt := 33) hF (by decide) dX8_codeOf_29 ?_
    refine j_sub (lv' := [(0, .ref (eA E 39)), (1, .int a1), (2, .int a2), (3, .int r1)]) hF [1, 2, 3, 0] rfl ?_
    exact t8_codeOf_b33 hF h hC
set_option maxHeartbeats 1000000 in
theorem c8_codeOf {E : En} {N : Nat} {a1 : Int32} {a2 : Int32} {S : Mem} {ro : Int32} (h : f8_codeOf N a1 a2 S = some ro) : CT E yX8_codeOf cX8_codeOf 8 (some .int) 2 [.ref (eA E 39), .int a1, .int a2] S (some (.int ro)) S :=
  CT_of (by decide) (Nat.le_of_ble_eq_true rfl) (fun X hF => t8_codeOf hF h rfl)
def f5_join (N : Nat) (k n : Nat) (a1 : Int32) (a2 : Int32) (S : Mem) : Option (Unit × Mem) :=
if a1 < 0 then
some (((), S))
else
if (nI n) ≤ a1 then
some (((), S))
else
if a1 < 0 ∨ n ≤ a1.toNatClampNeg then none else
lt_ ((S (k + 1)).1 a1.toNatClampNeg) fun x1 =>
if a1 < 0 ∨ n ≤ a1.toNatClampNeg then none else
lt_ (wr S (k + 1) a1.toNatClampNeg (x1 ||| a2)) fun S2 =>
some (((), S2))
set_option maxHeartbeats 1000000 in
theorem t5_join {E : En} {X : Cx} {Q : State → Prop} {N : Nat} {k n : Nat} {a1 : Int32} {a2 : Int32} {S : Mem} {o : (Unit × Mem)} (hr : RowAt E k n) (hF : Fx E X cX5_join RX5 3 none 0) (h : f5_join N k n a1 a2 S = some o) (hC : Q = RQ E X (none) o.2) : J E X Q S 0 [(0, .ref (eA E k)), (1, .int a1), (2, .int a2)] [] := by
  unfold f5_join at h
  refine j_iload_n hF rfl 1 rfl dX5_join_0 ?_
  refine j_if_lt (tgt := 23) hF h (by decide) dX5_join_1 (fun h => ?_) (fun h => ?_)
  · obtain rfl := ret1 h
    exact j_vret hF hC dX5_join_23
  · refine j_iload_n hF rfl 1 rfl dX5_join_4 ?_
    refine j_aload_n hF rfl 0 rfl dX5_join_5 ?_
    refine gf5_0 hF (rk0 hr) (hr.2.1 _) rfl bw_1_38 dX5_join_6 ?_
    refine j_alen (t0 := 0) hF (rk1 hr) (hr.2.2 _) rfl rfl dX5_join_9 ?_
    refine j_icmp_ge (tgt := 23) hF h (by decide) dX5_join_10 (fun h => ?_) (fun h => ?_)
    · obtain rfl := ret1 h
      exact j_vret hF hC dX5_join_23
    · refine j_aload_n hF rfl 0 rfl dX5_join_13 ?_
      refine gf5_0 hF (rk0 hr) (hr.2.1 _) rfl bw_1_38 dX5_join_14 ?_
      refine j_iload_n hF rfl 1 rfl dX5_join_17 ?_
      refine j_dup2 hF rfl rfl dX5_join_18 ?_
      refine j_iald hF (rk1 hr) hr.2.2 h dX5_join_19 (fun h => ?_)
      refine j_nmT h (fun x1 h => ?_)
      refine j_iload_n hF rfl 2 rfl dX5_join_20 ?_
      refine j_ior hF dX5_join_21 ?_
      refine j_iast hF (rk1 hr) hr.2.2 h dX5_join_22 (fun h => ?_)
      refine j_nmM h (fun S2 h => ?_)
      obtain rfl := ret1 h
      exact j_vret hF hC dX5_join_23
set_option maxHeartbeats 1000000 in
theorem c5_join {E : En} {N : Nat} {k n : Nat} {a1 : Int32} {a2 : Int32} {S So : Mem} {ro : Unit} (hr : RowAt E k n) (h : f5_join N k n a1 a2 S = some (ro, So)) : CT E yX5_join cX5_join 3 none 0 [.ref (eA E k), .int a1, .int a2] S (none) So :=
  CT_of (by decide) (Nat.le_of_ble_eq_true rfl) (fun X hF => t5_join hr hF h rfl)
def f8_writeCodes_L22 (N : Nat) (v1 : Int32) (v2 : Int32) (S : Mem) : Option ((Int32 × Mem) ⊕ (Mem)) :=
if (37 : Int32) ≤ v2 then
some (.inr (S))
else
bnp (f0_setOf_15 N v1 S) fun r4 =>
bnp (f8_codeOf N v1 v2 S) fun r5 =>
bnd (f5_join N 40 296 ((r4 * (37 : Int32)) + v2) r5 S) fun r6 S7 =>
lt_ (v2 + (1 : Int32)) fun x8 =>
some (.inl (x8, S7))
def f8_writeCodes_b60 (N : Nat) (v1 : Int32) (S : Mem) : Option ((Int32 × Mem) ⊕ (Mem)) :=
lt_ (v1 + (1 : Int32)) fun x10 =>
some (.inl (x10, S))
def f8_writeCodes_L9 (N : Nat) (v1 : Int32) (S : Mem) : Option ((Int32 × Mem) ⊕ (Mem)) :=
bnp (f0_lines_15 N S) fun r3 =>
if r3 ≤ v1 then
some (.inr (S))
else
bnp (lp N (fun s => f8_writeCodes_L22 N v1 s.1 s.2) ((0 : Int32), S)) fun z9 =>
f8_writeCodes_b60 N v1 z9
def f8_writeCodes_b66 (N : Nat) (S : Mem) : Option (Unit × Mem) :=
some (((), S))
def f8_writeCodes (N : Nat) (S : Mem) : Option (Unit × Mem) :=
bnd (f5_wipe N 40 296 S) fun r1 S2 =>
bnp (lp N (fun s => f8_writeCodes_L9 N s.1 s.2) ((0 : Int32), S2)) fun z11 =>
f8_writeCodes_b66 N z11
set_option maxHeartbeats 1000000 in
theorem t8_writeCodes_L22 {E : En} {X : Cx} {Q : State → Prop} {N : Nat} {v1 : Int32} {v2 : Int32} {S : Mem} {o : ((Int32 × Mem) ⊕ (Mem))} (hF : Fx E X cX8_writeCodes RX8 3 none 3) (h : f8_writeCodes_L22 N v1 v2 S = some o) (hC : Sum.elim (fun (s : (Int32 × Mem)) => J E X Q s.2 22 [(0, .ref (eA E 39)), (1, .int v1), (2, .int s.1)] []) (fun (x : (Mem)) => J E X Q x 60 [(0, .ref (eA E 39)), (1, .int v1)] []) o) : J E X Q S 22 [(0, .ref (eA E 39)), (1, .int v1), (2, .int v2)] [] := by
  unfold f8_writeCodes_L22 at h
  refine j_iload_n hF rfl 2 rfl dX8_writeCodes_22 ?_
  refine j_bipush (v := (37 : Int32)) hF (by decide) dX8_writeCodes_23 ?_
  refine j_icmp_ge (tgt := 60) hF h (by decide) dX8_writeCodes_25 (fun h => ?_) (fun h => ?_)
  · obtain rfl := ret1 h
    refine j_sub (lv' := [(0, .ref (eA E 39)), (1, .int v1)]) hF [0, 1] rfl ?_
    exact hC
  · refine j_aload_n hF rfl 0 rfl dX8_writeCodes_28 ?_
    refine gf8_2 hF (by decide) (s_39 E _) rfl bw_1_169 dX8_writeCodes_29 ?_
    refine j_aload_n hF rfl 0 rfl dX8_writeCodes_32 ?_
    refine gf8_1 hF (by decide) (s_39 E _) rfl bw_1_168 dX8_writeCodes_33 ?_
    refine j_iload_n hF rfl 1 rfl dX8_writeCodes_36 ?_
    obtain ⟨r4, hr4, h⟩ := bnp_some h
    refine j_callV_i (As := [.int v1]) (st := [.ref (eA E 40)]) hF rfl mv_0_setOf (by decide) (s_15 E _) rfl bw_3_81 rfl (by decide) (Nat.le_of_ble_eq_true rfl) dX8_writeCodes_37 (c0_setOf_15 hr4) ?_
    refine j_bipush (v := (37 : Int32)) hF (by decide) dX8_writeCodes_40 ?_
    refine j_imul hF dX8_writeCodes_42 ?_
    refine j_iload_n hF rfl 2 rfl dX8_writeCodes_43 ?_
    refine j_iadd hF dX8_writeCodes_44 ?_
    refine j_aload_n hF rfl 0 rfl dX8_writeCodes_45 ?_
    refine j_iload_n hF rfl 1 rfl dX8_writeCodes_46 ?_
    refine j_iload_n hF rfl 2 rfl dX8_writeCodes_47 ?_
    obtain ⟨r5, hr5, h⟩ := bnp_some h
    refine j_callV_i (As := [.int v1, .int v2]) (st := [.int ((r4 * (37 : Int32)) + v2), .ref (eA E 40)]) hF rfl mv_8_codeOf (by decide) (s_39 E _) rfl bw_3_82 rfl (by decide) (Nat.le_of_ble_eq_true rfl) dX8_writeCodes_48 (c8_codeOf hr5) ?_
    obtain ⟨r6, S7, hr6, h⟩ := bnd_some h
    refine j_callV_v (As := [.int ((r4 * (37 : Int32)) + v2), .int r5]) (st := []) hF rfl mv_5_join (by decide) (s_40 E _) rfl bw_3_89 rfl (by decide) (Nat.le_of_ble_eq_true rfl) dX8_writeCodes_51 (c5_join (ra_40 E) hr6) ?_
    refine j_iinc (v := (v2 + (1 : Int32))) (lv' := [(2, .int (v2 + (1 : Int32))), (0, .ref (eA E 39)), (1, .int v1)]) (q := 2) hF rfl (congrArg (fun z => v2 + z) (by decide)) (by decide) rfl dX8_writeCodes_54 ?_
    refine j_nmL h (fun x8 h => ?_)
    refine j_goto (tgt := 22) hF (by decide) dX8_writeCodes_57 ?_
    obtain rfl := ret1 h
    refine j_sub (lv' := [(0, .ref (eA E 39)), (1, .int v1), (2, .int x8)]) hF [1, 2, 0] rfl ?_
    exact hC
set_option maxHeartbeats 1000000 in
theorem t8_writeCodes_b60 {E : En} {X : Cx} {Q : State → Prop} {N : Nat} {v1 : Int32} {S : Mem} {o : ((Int32 × Mem) ⊕ (Mem))} (hF : Fx E X cX8_writeCodes RX8 3 none 3) (h : f8_writeCodes_b60 N v1 S = some o) (hC : Sum.elim (fun (s : (Int32 × Mem)) => J E X Q s.2 9 [(0, .ref (eA E 39)), (1, .int s.1)] []) (fun (x : (Mem)) => J E X Q x 66 [] []) o) : J E X Q S 60 [(0, .ref (eA E 39)), (1, .int v1)] [] := by
  unfold f8_writeCodes_b60 at h
  refine j_iinc (v := (v1 + (1 : Int32))) (lv' := [(1, .int (v1 + (1 : Int32))), (0, .ref (eA E 39))]) (q := 1) hF rfl (congrArg (fun z => v1 + z) (by decide)) (by decide) rfl dX8_writeCodes_60 ?_
  refine j_nmL h (fun x10 h => ?_)
  refine j_goto (tgt := 9) hF (by decide) dX8_writeCodes_63 ?_
  obtain rfl := ret1 h
  refine j_sub (lv' := [(0, .ref (eA E 39)), (1, .int x10)]) hF [1, 0] rfl ?_
  exact hC
set_option maxHeartbeats 1000000 in
theorem t8_writeCodes_L9 {E : En} {X : Cx} {Q : State → Prop} {N : Nat} {v1 : Int32} {S : Mem} {o : ((Int32 × Mem) ⊕ (Mem))} (hF : Fx E X cX8_writeCodes RX8 3 none 3) (h : f8_writeCodes_L9 N v1 S = some o) (hC : Sum.elim (fun (s : (Int32 × Mem)) => J E X Q s.2 9 [(0, .ref (eA E 39)), (1, .int s.1)] []) (fun (x : (Mem)) => J E X Q x 66 [] []) o) : J E X Q S 9 [(0, .ref (eA E 39)), (1, .int v1)] [] := by
  unfold f8_writeCodes_L9 at h
  refine j_iload_n hF rfl 1 rfl dX8_writeCodes_9 ?_
  refine j_aload_n hF rfl 0 rfl dX8_writeCodes_10 ?_
  refine gf8_1 hF (by decide) (s_39 E _) rfl bw_1_168 dX8_writeCodes_11 ?_
  obtain ⟨r3, hr3, h⟩ := bnp_some h
  refine j_callV_i (As := []) (st := [.int v1]) hF rfl mv_0_lines (by decide) (s_15 E _) rfl bw_3_80 rfl (by decide) (Nat.le_of_ble_eq_true rfl) dX8_writeCodes_14 (c0_lines_15 hr3) ?_
  refine j_icmp_ge (tgt := 66) hF h (by decide) dX8_writeCodes_17 (fun h => ?_) (fun h => ?_)
  · obtain rfl := ret1 h
    refine j_sub (lv' := []) hF [] rfl ?_
    exact hC
  · refine j_iconst (v := (0 : Int32)) hF (by decide) dX8_writeCodes_20 ?_
    refine j_istore_n (lv' := [(2, .int (0 : Int32)), (0, .ref (eA E 39)), (1, .int v1)]) hF rfl (by decide) rfl dX8_writeCodes_21 ?_
    obtain ⟨z9, hz9, h⟩ := bnp_some h
    refine j_sub (lv' := [(0, .ref (eA E 39)), (1, .int v1), (2, .int (0 : Int32))]) hF [1, 2, 0] rfl ?_
    have hx : (fun (x : (Mem)) => J E X Q x 60 [(0, .ref (eA E 39)), (1, .int v1)] []) z9 := by
      exact t8_writeCodes_b60 hF h hC
    exact lp_rule (Jh := fun (s : (Int32 × Mem)) => J E X Q s.2 22 [(0, .ref (eA E 39)), (1, .int v1), (2, .int s.1)] []) (C := fun (x : (Mem)) => J E X Q x 60 [(0, .ref (eA E 39)), (1, .int v1)] []) (fun s o h hC => t8_writeCodes_L22 hF h hC) N ((0 : Int32), S) z9 hz9 hx
set_option maxHeartbeats 1000000 in
theorem t8_writeCodes_b66 {E : En} {X : Cx} {Q : State → Prop} {N : Nat} {S : Mem} {o : (Unit × Mem)} (hF : Fx E X cX8_writeCodes RX8 3 none 3) (h : f8_writeCodes_b66 N S = some o) (hC : Q = RQ E X (none) o.2) : J E X Q S 66 [] [] := by
  unfold f8_writeCodes_b66 at h
  obtain rfl := ret1 h
  exact j_vret hF hC dX8_writeCodes_66
set_option maxHeartbeats 1000000 in
theorem t8_writeCodes {E : En} {X : Cx} {Q : State → Prop} {N : Nat} {S : Mem} {o : (Unit × Mem)} (hF : Fx E X cX8_writeCodes RX8 3 none 3) (h : f8_writeCodes N S = some o) (hC : Q = RQ E X (none) o.2) : J E X Q S 0 [(0, .ref (eA E 39))] [] := by
  unfold f8_writeCodes at h
  refine j_aload_n hF rfl 0 rfl dX8_writeCodes_0 ?_
  refine gf8_2 hF (by decide) (s_39 E _) rfl bw_1_169 dX8_writeCodes_1 ?_
  obtain ⟨r1, S2, hr1, h⟩ := bnd_some h
  refine j_callV_v (As := []) (st := []) hF rfl mv_5_wipe (by decide) (s_40 E _) rfl bw_3_72 rfl (by decide) (Nat.le_of_ble_eq_true rfl) dX8_writeCodes_4 (c5_wipe (ra_40 E) hr1) ?_
  refine j_iconst (v := (0 : Int32)) hF (by decide) dX8_writeCodes_7 ?_
  refine j_istore_n (lv' := [(1, .int (0 : Int32)), (0, .ref (eA E 39))]) hF rfl (by decide) rfl dX8_writeCodes_8 ?_
  obtain ⟨z11, hz11, h⟩ := bnp_some h
  refine j_sub (lv' := [(0, .ref (eA E 39)), (1, .int (0 : Int32))]) hF [1, 0] rfl ?_
  have hx : (fun (x : (Mem)) => J E X Q x 66 [] []) z11 := by
    exact t8_writeCodes_b66 hF h hC
  exact lp_rule (Jh := fun (s : (Int32 × Mem)) => J E X Q s.2 9 [(0, .ref (eA E 39)), (1, .int s.1)] []) (C := fun (x : (Mem)) => J E X Q x 66 [] []) (fun s o h hC => t8_writeCodes_L9 hF h hC) N ((0 : Int32), S2) z11 hz11 hx
set_option maxHeartbeats 1000000 in
theorem c8_writeCodes {E : En} {N : Nat} {S So : Mem} {ro : Unit} (h : f8_writeCodes N S = some (ro, So)) : CT E yX8_writeCodes cX8_writeCodes 3 none 3 [.ref (eA E 39)] S (none) So :=
  CT_of (by decide) (Nat.le_of_ble_eq_true rfl) (fun X hF => t8_writeCodes hF h rfl)
def f8_code (N : Nat) (a1 : Int32) (a2 : Int32) (S : Mem) : Option Int32 :=
bnp (f5_get N 40 296 ((a1 * (37 : Int32)) + a2) S) fun r1 =>
some (r1)
set_option maxHeartbeats 1000000 in
theorem t8_code {E : En} {X : Cx} {Q : State → Prop} {N : Nat} {a1 : Int32} {a2 : Int32} {S : Mem} {o : Int32} (hF : Fx E X cX8_code RX8 3 (some .int) 1) (h : f8_code N a1 a2 S = some o) (hC : Q = RQ E X (some (.int o)) S) : J E X Q S 0 [(0, .ref (eA E 39)), (1, .int a1), (2, .int a2)] [] := by
  unfold f8_code at h
  refine j_aload_n hF rfl 0 rfl dX8_code_0 ?_
  refine gf8_2 hF (by decide) (s_39 E _) rfl bw_1_169 dX8_code_1 ?_
  refine j_iload_n hF rfl 1 rfl dX8_code_4 ?_
  refine j_bipush (v := (37 : Int32)) hF (by decide) dX8_code_5 ?_
  refine j_imul hF dX8_code_7 ?_
  refine j_iload_n hF rfl 2 rfl dX8_code_8 ?_
  refine j_iadd hF dX8_code_9 ?_
  obtain ⟨r1, hr1, h⟩ := bnp_some h
  refine j_callV_i (As := [.int ((a1 * (37 : Int32)) + a2)]) (st := []) hF rfl mv_5_get (by decide) (s_40 E _) rfl bw_3_101 rfl (by decide) (Nat.le_of_ble_eq_true rfl) dX8_code_10 (c5_get (ra_40 E) hr1) ?_
  obtain rfl := ret1 h
  exact j_iret hF hC dX8_code_13
set_option maxHeartbeats 1000000 in
theorem c8_code {E : En} {N : Nat} {a1 : Int32} {a2 : Int32} {S : Mem} {ro : Int32} (h : f8_code N a1 a2 S = some ro) : CT E yX8_code cX8_code 3 (some .int) 1 [.ref (eA E 39), .int a1, .int a2] S (some (.int ro)) S :=
  CT_of (by decide) (Nat.le_of_ble_eq_true rfl) (fun X hF => t8_code hF h rfl)
