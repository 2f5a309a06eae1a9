def f8_leastOf (N : Nat) (a1 : Int32) (S : Mem) : Option Int32 :=
bnp (f6_things_10 N S) fun r1 =>
if r1 ≤ a1 then
some ((0 : Int32))
else
some ((1 : Int32))
set_option maxHeartbeats 1000000 in
theorem t8_leastOf {E : En} {X : Cx} {Q : State → Prop} {N : Nat} {a1 : Int32} {S : Mem} {o : Int32} (hF : Fx E X cX8_leastOf RX8 2 (some .int) 1) (h : f8_leastOf N a1 S = some o) (hC : Q = RQ E X (some (.int o)) S) : J E X Q S 0 [(0, .ref (eA E 39)), (1, .int a1)] [] := by
  unfold f8_leastOf at h
  refine j_iload_n hF rfl 1 rfl dX8_leastOf_0 ?_
  refine j_aload_n hF rfl 0 rfl dX8_leastOf_1 ?_
  refine gf8_0 hF (by decide) (s_39 E _) rfl bw_1_167 dX8_leastOf_2 ?_
  obtain ⟨r1, hr1, h⟩ := bnp_some h
  refine j_callV_i (As := []) (st := [.int a1]) hF rfl mv_6_things (by decide) (s_10 E _) rfl bw_3_106 rfl (by decide) (Nat.le_of_ble_eq_true rfl) dX8_leastOf_5 (c6_things_10 hr1) ?_
  refine j_icmp_ge (tgt := 15) hF h (by decide) dX8_leastOf_8 (fun h => ?_) (fun h => ?_)
  · refine j_iconst (v := (0 : Int32)) hF (by decide) dX8_leastOf_15 ?_
    obtain rfl := ret1 h
    exact j_iret hF hC dX8_leastOf_16
  · refine j_iconst (v := (1 : Int32)) hF (by decide) dX8_leastOf_11 ?_
    refine j_goto (tgt := 16) hF (by decide) dX8_leastOf_12 ?_
    obtain rfl := ret1 h
    exact j_iret hF hC dX8_leastOf_16
set_option maxHeartbeats 1000000 in
theorem c8_leastOf {E : En} {N : Nat} {a1 : Int32} {S : Mem} {ro : Int32} (h : f8_leastOf N a1 S = some ro) : CT E yX8_leastOf cX8_leastOf 2 (some .int) 1 [.ref (eA E 39), .int a1] S (some (.int ro)) S :=
  CT_of (by decide) (Nat.le_of_ble_eq_true rfl) (fun X hF => t8_leastOf hF h rfl)
def f8_mostOf (N : Nat) (a1 : Int32) (S : Mem) : Option Int32 :=
bnp (f6_things_10 N S) fun r1 =>
if r1 ≤ a1 then
some ((0 : Int32))
else
some ((9 : Int32))
set_option maxHeartbeats 1000000 in
theorem t8_mostOf {E : En} {X : Cx} {Q : State → Prop} {N : Nat} {a1 : Int32} {S : Mem} {o : Int32} (hF : Fx E X cX8_mostOf RX8 2 (some .int) 1) (h : f8_mostOf N a1 S = some o) (hC : Q = RQ E X (some (.int o)) S) : J E X Q S 0 [(0, .ref (eA E 39)), (1, .int a1)] [] := by
  unfold f8_mostOf at h
  refine j_iload_n hF rfl 1 rfl dX8_mostOf_0 ?_
  refine j_aload_n hF rfl 0 rfl dX8_mostOf_1 ?_
  refine gf8_0 hF (by decide) (s_39 E _) rfl bw_1_167 dX8_mostOf_2 ?_
  obtain ⟨r1, hr1, h⟩ := bnp_some h
  refine j_callV_i (As := []) (st := [.int a1]) hF rfl mv_6_things (by decide) (s_10 E _) rfl bw_3_106 rfl (by decide) (Nat.le_of_ble_eq_true rfl) dX8_mostOf_5 (c6_things_10 hr1) ?_
  refine j_icmp_ge (tgt := 16) hF h (by decide) dX8_mostOf_8 (fun h => ?_) (fun h => ?_)
  · refine j_iconst (v := (0 : Int32)) hF (by decide) dX8_mostOf_16 ?_
    obtain rfl := ret1 h
    exact j_iret hF hC dX8_mostOf_17
  · refine j_bipush (v := (9 : Int32)) hF (by decide) dX8_mostOf_11 ?_
    refine j_goto (tgt := 17) hF (by decide) dX8_mostOf_13 ?_
    obtain rfl := ret1 h
    exact j_iret hF hC dX8_mostOf_17
set_option maxHeartbeats 1000000 in
theorem c8_mostOf {E : En} {N : Nat} {a1 : Int32} {S : Mem} {ro : Int32} (h : f8_mostOf N a1 S = some ro) : CT E yX8_mostOf cX8_mostOf 2 (some .int) 1 [.ref (eA E 39), .int a1] S (some (.int ro)) S :=
  CT_of (by decide) (Nat.le_of_ble_eq_true rfl) (fun X hF => t8_mostOf hF h rfl)
def fJ6_bitCount (N : Nat) (a0 : Int32) (S : Mem) : Option Int32 :=
lt_ (a0 - ((a0.toUInt32 >>> ((1 : Int32).toUInt32 &&& Int32.toUInt32 31)).toInt32 &&& (1431655765 : Int32))) fun x1 =>
lt_ ((x1 &&& (858993459 : Int32)) + ((x1.toUInt32 >>> ((2 : Int32).toUInt32 &&& Int32.toUInt32 31)).toInt32 &&& (858993459 : Int32))) fun x2 =>
lt_ ((x2 + (x2.toUInt32 >>> ((4 : Int32).toUInt32 &&& Int32.toUInt32 31)).toInt32) &&& (252645135 : Int32)) fun x3 =>
lt_ (x3 + (x3.toUInt32 >>> ((8 : Int32).toUInt32 &&& Int32.toUInt32 31)).toInt32) fun x4 =>
lt_ (x4 + (x4.toUInt32 >>> ((16 : Int32).toUInt32 &&& Int32.toUInt32 31)).toInt32) fun x5 =>
some ((x5 &&& (63 : Int32)))
set_option maxHeartbeats 1000000 in
theorem tJ6_bitCount {E : En} {X : Cx} {Q : State → Prop} {N : Nat} {a0 : Int32} {S : Mem} {o : Int32} (hF : Fx E X cJ6_bitCount_0f7a4 RJ6 1 (some .int) 0) (h : fJ6_bitCount N a0 S = some o) (hC : Q = RQ E X (some (.int o)) S) : J E X Q S 0 [(0, .int a0)] [] := by
  unfold fJ6_bitCount at h
  refine j_iload_n hF rfl 0 rfl dJ6_bitCount_0f7a4_0 ?_
  refine j_iload_n hF rfl 0 rfl dJ6_bitCount_0f7a4_1 ?_
  refine j_iconst (v := (1 : Int32)) hF (by decide) dJ6_bitCount_0f7a4_2 ?_
  refine j_iushr hF dJ6_bitCount_0f7a4_3 ?_
  refine j_ldcw (v := (1431655765 : Int32)) hF bw_3_118 dJ6_bitCount_0f7a4_4 ?_
  refine j_iand hF dJ6_bitCount_0f7a4_7 ?_
  refine j_isub hF dJ6_bitCount_0f7a4_8 ?_
  refine j_istore_n (lv' := [(0, .int (a0 - ((a0.toUInt32 >>> ((1 : Int32).toUInt32 &&& Int32.toUInt32 31)).toInt32 &&& (1431655765 : Int32))))]) hF rfl (by decide) rfl dJ6_bitCount_0f7a4_9 ?_
  refine j_nmL h (fun x1 h => ?_)
  refine j_iload_n hF rfl 0 rfl dJ6_bitCount_0f7a4_10 ?_
  refine j_ldcw (v := (858993459 : Int32)) hF bw_3_119 dJ6_bitCount_0f7a4_11 ?_
  refine j_iand hF dJ6_bitCount_0f7a4_14 ?_
  refine j_iload_n hF rfl 0 rfl dJ6_bitCount_0f7a4_15 ?_
  refine j_iconst (v := (2 : Int32)) hF (by decide) dJ6_bitCount_0f7a4_16 ?_
  refine j_iushr hF dJ6_bitCount_0f7a4_17 ?_
  refine j_ldcw (v := (858993459 : Int32)) hF bw_3_119 dJ6_bitCount_0f7a4_18 ?_
  refine j_iand hF dJ6_bitCount_0f7a4_21 ?_
  refine j_iadd hF dJ6_bitCount_0f7a4_22 ?_
  refine j_istore_n (lv' := [(0, .int ((x1 &&& (858993459 : Int32)) + ((x1.toUInt32 >>> ((2 : Int32).toUInt32 &&& Int32.toUInt32 31)).toInt32 &&& (858993459 : Int32))))]) hF rfl (by decide) rfl dJ6_bitCount_0f7a4_23 ?_
  refine j_nmL h (fun x2 h => ?_)
  refine j_iload_n hF rfl 0 rfl dJ6_bitCount_0f7a4_24 ?_
  refine j_iload_n hF rfl 0 rfl dJ6_bitCount_0f7a4_25 ?_
  refine j_iconst (v := (4 : Int32)) hF (by decide) dJ6_bitCount_0f7a4_26 ?_
  refine j_iushr hF dJ6_bitCount_0f7a4_27 ?_
  refine j_iadd hF dJ6_bitCount_0f7a4_28 ?_
  refine j_ldcw (v := (252645135 : Int32)) hF bw_3_120 dJ6_bitCount_0f7a4_29 ?_
  refine j_iand hF dJ6_bitCount_0f7a4_32 ?_
  refine j_istore_n (lv' := [(0, .int ((x2 + (x2.toUInt32 >>> ((4 : Int32).toUInt32 &&& Int32.toUInt32 31)).toInt32) &&& (252645135 : Int32)))]) hF rfl (by decide) rfl dJ6_bitCount_0f7a4_33 ?_
  refine j_nmL h (fun x3 h => ?_)
  refine j_iload_n hF rfl 0 rfl dJ6_bitCount_0f7a4_34 ?_
  refine j_iload_n hF rfl 0 rfl dJ6_bitCount_0f7a4_35 ?_
  refine j_bipush (v := (8 : Int32)) hF (by decide) dJ6_bitCount_0f7a4_36 ?_
  refine j_iushr hF dJ6_bitCount_0f7a4_38 ?_
  refine j_iadd hF dJ6_bitCount_0f7a4_39 ?_
  refine j_istore_n (lv' := [(0, .int (x3 + (x3.toUInt32 >>> ((8 : Int32).toUInt32 &&& Int32.toUInt32 31)).toInt32))]) hF rfl (by decide) rfl dJ6_bitCount_0f7a4_40 ?_
  refine j_nmL h (fun x4 h => ?_)
  refine j_iload_n hF rfl 0 rfl dJ6_bitCount_0f7a4_41 ?_
  refine j_iload_n hF rfl 0 rfl dJ6_bitCount_0f7a4_42 ?_
  refine j_bipush (v := (16 : Int32)) hF (by decide) dJ6_bitCount_0f7a4_43 ?_
  refine j_iushr hF dJ6_bitCount_0f7a4_45 ?_
  refine j_iadd hF dJ6_bitCount_0f7a4_46 ?_
  refine j_istore_n (lv' := [(0, .int (x4 + (x4.toUInt32 >>> ((16 : Int32).toUInt32 &&& Int32.toUInt32 31)).toInt32))]) hF rfl (by decide) rfl dJ6_bitCount_0f7a4_47 ?_
  refine j_nmL h (fun x5 h => ?_)
  refine j_iload_n hF rfl 0 rfl dJ6_bitCount_0f7a4_48 ?_
  refine j_bipush (v := (63 : Int32)) hF (by decide) dJ6_bitCount_0f7a4_49 ?_
  refine j_iand hF dJ6_bitCount_0f7a4_51 ?_
  obtain rfl := ret1 h
  exact j_iret hF hC dJ6_bitCount_0f7a4_52
set_option maxHeartbeats 1000000 in
theorem cJ6_bitCount {E : En} {N : Nat} {a0 : Int32} {S : Mem} {ro : Int32} (h : fJ6_bitCount N a0 S = some ro) : CT E yJ6_bitCount_0f7a4 cJ6_bitCount_0f7a4 1 (some .int) 0 [.int a0] S (some (.int ro)) S :=
  CT_of (by decide) (Nat.le_of_ble_eq_true rfl) (fun X hF => tJ6_bitCount hF h rfl)
def f8_weightIn (N : Nat) (a0 : Int32) (a1 : Int32) (S : Mem) : Option Int32 :=
if a1 = (0 : Int32) then
if (1000 : Int32) = (0 : Int32) then none else
some ((a0 / (1000 : Int32)))
else
if a1 = (1 : Int32) then
if (100 : Int32) = (0 : Int32) then none else
if (10 : Int32) = (0 : Int32) then none else
some (((a0 / (100 : Int32)) - (a0 / (100 : Int32)) / (10 : Int32) * (10 : Int32)))
else
if a1 = (2 : Int32) then
if (10 : Int32) = (0 : Int32) then none else
if (10 : Int32) = (0 : Int32) then none else
some (((a0 / (10 : Int32)) - (a0 / (10 : Int32)) / (10 : Int32) * (10 : Int32)))
else
if (10 : Int32) = (0 : Int32) then none else
some ((a0 - a0 / (10 : Int32) * (10 : Int32)))
set_option maxHeartbeats 1000000 in
theorem t8_weightIn {E : En} {X : Cx} {Q : State → Prop} {N : Nat} {a0 : Int32} {a1 : Int32} {S : Mem} {o : Int32} (hF : Fx E X cX8_weightIn RX8 2 (some .int) 0) (h : f8_weightIn N a0 a1 S = some o) (hC : Q = RQ E X (some (.int o)) S) : J E X Q S 0 [(0, .int a0), (1, .int a1)] [] := by
  unfold f8_weightIn at h
  refine j_iload_n hF rfl 1 rfl dX8_weightIn_0 ?_
  by_cases c0 : a1 = (0 : Int32)
  · rw [if_pos c0] at h
    refine j_tswIn (tgt := 28) hF c0 (by decide) (by decide) rfl (by decide) dX8_weightIn_1 ?_
    refine j_iload_n hF rfl 0 rfl dX8_weightIn_28 ?_
    refine j_sipush (v := (1000 : Int32)) hF (by decide) dX8_weightIn_29 ?_
    refine j_idiv hF h dX8_weightIn_32 (fun h => ?_)
    obtain rfl := ret1 h
    exact j_iret hF hC dX8_weightIn_33
  · rw [if_neg c0] at h
    by_cases c1 : a1 = (1 : Int32)
    · rw [if_pos c1] at h
      refine j_tswIn (tgt := 34) hF c1 (by decide) (by decide) rfl (by decide) dX8_weightIn_1 ?_
      refine j_iload_n hF rfl 0 rfl dX8_weightIn_34 ?_
      refine j_bipush (v := (100 : Int32)) hF (by decide) dX8_weightIn_35 ?_
      refine j_idiv hF h dX8_weightIn_37 (fun h => ?_)
      refine j_bipush (v := (10 : Int32)) hF (by decide) dX8_weightIn_38 ?_
      refine j_irem hF h dX8_weightIn_40 (fun h => ?_)
      obtain rfl := ret1 h
      exact j_iret hF hC dX8_weightIn_41
    · rw [if_neg c1] at h
      by_cases c2 : a1 = (2 : Int32)
      · rw [if_pos c2] at h
        refine j_tswIn (tgt := 42) hF c2 (by decide) (by decide) rfl (by decide) dX8_weightIn_1 ?_
        refine j_iload_n hF rfl 0 rfl dX8_weightIn_42 ?_
        refine j_bipush (v := (10 : Int32)) hF (by decide) dX8_weightIn_43 ?_
        refine j_idiv hF h dX8_weightIn_45 (fun h => ?_)
        refine j_bipush (v := (10 : Int32)) hF (by decide) dX8_weightIn_46 ?_
        refine j_irem hF h dX8_weightIn_48 (fun h => ?_)
        obtain rfl := ret1 h
        exact j_iret hF hC dX8_weightIn_49
      · rw [if_neg c2] at h
        have e0 : a1.toInt ≠ 0 := ne_toInt c0
        have e1 : a1.toInt ≠ 1 := ne_toInt c1
        have e2 : a1.toInt ≠ 2 := ne_toInt c2
        refine j_tswOut (tgt := 50) hF (by omega) (by decide) dX8_weightIn_1 ?_
        refine j_iload_n hF rfl 0 rfl dX8_weightIn_50 ?_
        refine j_bipush (v := (10 : Int32)) hF (by decide) dX8_weightIn_51 ?_
        refine j_irem hF h dX8_weightIn_53 (fun h => ?_)
        obtain rfl := ret1 h
        exact j_iret hF hC dX8_weightIn_54
set_option maxHeartbeats 1000000 in
theorem c8_weightIn {E : En} {N : Nat} {a0 : Int32} {a1 : Int32} {S : Mem} {ro : Int32} (h : f8_weightIn N a0 a1 S = some ro) : CT E yX8_weightIn cX8_weightIn 2 (some .int) 0 [.int a0, .int a1] S (some (.int ro)) S :=
  CT_of (by decide) (Nat.le_of_ble_eq_true rfl) (fun X hF => t8_weightIn hF h rfl)
def f5_add (N : Nat) (k n : Nat) (a1 : Int32) (a2 : Int32) (S : Mem) : Option (Unit × Mem) :=
if a1 < 0 then
some (((), S))
else
if (nI n) ≤ a1 then
some (((), S))
else
if a1 < 0 ∨ n ≤ a1.toNatClampNeg then none else
lt_ ((S (k + 1)).1 a1.toNatClampNeg) fun x1 =>
if a1 < 0 ∨ n ≤ a1.toNatClampNeg then none else
lt_ (wr S (k + 1) a1.toNatClampNeg (x1 + a2)) fun S2 =>
some (((), S2))
set_option maxHeartbeats 1000000 in
theorem t5_add {E : En} {X : Cx} {Q : State → Prop} {N : Nat} {k n : Nat} {a1 : Int32} {a2 : Int32} {S : Mem} {o : (Unit × Mem)} (hr : RowAt E k n) (hF : Fx E X cX5_add RX5 3 none 0) (h : f5_add N k n a1 a2 S = some o) (hC : Q = RQ E X (none) o.2) : J E X Q S 0 [(0, .ref (eA E k)), (1, .int a1), (2, .int a2)] [] := by
  unfold f5_add at h
  refine j_iload_n hF rfl 1 rfl dX5_add_0 ?_
  refine j_if_lt (tgt := 23) hF h (by decide) dX5_add_1 (fun h => ?_) (fun h => ?_)
  · obtain rfl := ret1 h
    exact j_vret hF hC dX5_add_23
  · refine j_iload_n hF rfl 1 rfl dX5_add_4 ?_
    refine j_aload_n hF rfl 0 rfl dX5_add_5 ?_
    refine gf5_0 hF (rk0 hr) (hr.2.1 _) rfl bw_1_38 dX5_add_6 ?_
    refine j_alen (t0 := 0) hF (rk1 hr) (hr.2.2 _) rfl rfl dX5_add_9 ?_
    refine j_icmp_ge (tgt := 23) hF h (by decide) dX5_add_10 (fun h => ?_) (fun h => ?_)
    · obtain rfl := ret1 h
      exact j_vret hF hC dX5_add_23
    · refine j_aload_n hF rfl 0 rfl dX5_add_13 ?_
      refine gf5_0 hF (rk0 hr) (hr.2.1 _) rfl bw_1_38 dX5_add_14 ?_
      refine j_iload_n hF rfl 1 rfl dX5_add_17 ?_
      refine j_dup2 hF rfl rfl dX5_add_18 ?_
      refine j_iald hF (rk1 hr) hr.2.2 h dX5_add_19 (fun h => ?_)
      refine j_nmT h (fun x1 h => ?_)
      refine j_iload_n hF rfl 2 rfl dX5_add_20 ?_
      refine j_iadd hF dX5_add_21 ?_
      refine j_iast hF (rk1 hr) hr.2.2 h dX5_add_22 (fun h => ?_)
      refine j_nmM h (fun S2 h => ?_)
      obtain rfl := ret1 h
      exact j_vret hF hC dX5_add_23
set_option maxHeartbeats 1000000 in
theorem c5_add {E : En} {N : Nat} {k n : Nat} {a1 : Int32} {a2 : Int32} {S So : Mem} {ro : Unit} (hr : RowAt E k n) (h : f5_add N k n a1 a2 S = some (ro, So)) : CT E yX5_add cX5_add 3 none 0 [.ref (eA E k), .int a1, .int a2] S (none) So :=
  CT_of (by decide) (Nat.le_of_ble_eq_true rfl) (fun X hF => t5_add hr hF h rfl)
def f8_leave_L28 (N : Nat) (v1 : Int32) (v2 : Int32) (v3 : Int32) (S : Mem) : Option ((Int32 × Mem) ⊕ (Mem)) :=
if (3 : Int32) < v3 then
some (.inr (S))
else
bnp (f8_weightIn N v1 v3 S) fun r4 =>
bnd (f5_add N 44 40 ((v3 * (10 : Int32)) + r4) (1 : Int32) S) fun r5 S6 =>
lt_ (v3 + (1 : Int32)) fun x7 =>
some (.inl (x7, S6))
def f8_leave_L74 (N : Nat) (v2 : Int32) (v3 : Int32) (v4 : Int32) (S : Mem) : Option ((Int32 × Mem) ⊕ (Mem)) :=
if (v2 >>> (v4 &&& 31)) = 0 then
some (.inr (S))
else
if (12 : Int32) ≤ v4 then
some (.inr (S))
else
bnd (f5_add N 48 156 ((v4 * (13 : Int32)) + v3) ((v2 >>> (v4 &&& 31)) &&& (1 : Int32)) S) fun r12 S13 =>
lt_ (v4 + (1 : Int32)) fun x14 =>
some (.inl (x14, S13))
def f8_leave_b114 (N : Nat) (S : Mem) : Option (Unit × Mem) :=
some (((), S))
def f8_leave_b57 (N : Nat) (v2 : Int32) (S : Mem) : Option (Unit × Mem) :=
bnp (fJ6_bitCount N v2 S) fun r9 =>
bnd (f5_add N 46 13 r9 (1 : Int32) S) fun r10 S11 =>
bnp (lp N (fun s => f8_leave_L74 N v2 r9 s.1 s.2) ((0 : Int32), S11)) fun z15 =>
f8_leave_b114 N z15
def f8_leave (N : Nat) (a1 : Int32) (a2 : Int32) (S : Mem) : Option (Unit × Mem) :=
lt_ (wr S 39 8 (((S 39).1 8) + (1 : Int32))) fun S1 =>
bnd (f5_join N 42 313 (a1 >>> ((5 : Int32) &&& 31)) ((1 : Int32) <<< ((a1 &&& (31 : Int32)) &&& 31)) S1) fun r2 S3 =>
bnp (lp N (fun s => f8_leave_L28 N a1 a2 s.1 s.2) ((0 : Int32), S3)) fun z8 =>
f8_leave_b57 N a2 z8
set_option maxHeartbeats 1000000 in
theorem t8_leave_L28 {E : En} {X : Cx} {Q : State → Prop} {N : Nat} {v1 : Int32} {v2 : Int32} {v3 : Int32} {S : Mem} {o : ((Int32 × Mem) ⊕ (Mem))} (hF : Fx E X cX8_leave RX8 5 none 1) (h : f8_leave_L28 N v1 v2 v3 S = some o) (hC : Sum.elim (fun (s : (Int32 × Mem)) => J E X Q s.2 28 [(0, .ref (eA E 39)), (1, .int v1), (2, .int v2), (3, .int s.1)] []) (fun (x : (Mem)) => J E X Q x 57 [(0, .ref (eA E 39)), (2, .int v2)] []) o) : J E X Q S 28 [(0, .ref (eA E 39)), (1, .int v1), (2, .int v2), (3, .int v3)] [] := by
  unfold f8_leave_L28 at h
  refine j_iload_n hF rfl 3 rfl dX8_leave_28 ?_
  refine j_iconst (v := (3 : Int32)) hF (by decide) dX8_leave_29 ?_
  refine j_icmp_gt (tgt := 57) hF h (by decide) dX8_leave_30 (fun h => ?_) (fun h => ?_)
  · obtain rfl := ret1 h
    refine j_sub (lv' := [(0, .ref (eA E 39)), (2, .int v2)]) hF [0, 2] rfl ?_
    exact hC
  · refine j_aload_n hF rfl 0 rfl dX8_leave_33 ?_
    refine gf8_4 hF (by decide) (s_39 E _) rfl bw_1_171 dX8_leave_34 ?_
    refine j_iload_n hF rfl 3 rfl dX8_leave_37 ?_
    refine j_bipush (v := (10 : Int32)) hF (by decide) dX8_leave_38 ?_
    refine j_imul hF dX8_leave_40 ?_
    refine j_iload_n hF rfl 1 rfl dX8_leave_41 ?_
    refine j_iload_n hF rfl 3 rfl dX8_leave_42 ?_
    obtain ⟨r4, hr4, h⟩ := bnp_some h
    refine j_callS_i (As := [.int v1, .int v3]) (st := [.int (v3 * (10 : Int32)), .ref (eA E 44)]) hF rfl mv_8_weightIn bw_3_125 rfl (by decide) (Nat.le_of_ble_eq_true rfl) dX8_leave_43 (c8_weightIn hr4) ?_
    refine j_iadd hF dX8_leave_46 ?_
    refine j_iconst (v := (1 : Int32)) hF (by decide) dX8_leave_47 ?_
    obtain ⟨r5, S6, hr5, h⟩ := bnd_some h
    refine j_callV_v (As := [.int ((v3 * (10 : Int32)) + r4), .int (1 : Int32)]) (st := []) hF rfl mv_5_add (by decide) (s_44 E _) rfl bw_3_128 rfl (by decide) (Nat.le_of_ble_eq_true rfl) dX8_leave_48 (c5_add (ra_44 E) hr5) ?_
    refine j_iinc (v := (v3 + (1 : Int32))) (lv' := [(3, .int (v3 + (1 : Int32))), (0, .ref (eA E 39)), (1, .int v1), (2, .int v2)]) (q := 3) hF rfl (congrArg (fun z => v3 + z) (by decide)) (by decide) rfl dX8_leave_51 ?_
    refine j_nmL h (fun x7 h => ?_)
    refine j_goto (tgt := 28) hF (by decide) dX8_leave_54 ?_
    obtain rfl := ret1 h
    refine j_sub (lv' := [(0, .ref (eA E 39)), (1, .int v1), (2, .int v2), (3, .int x7)]) hF [1, 2, 3, 0] rfl ?_
    exact hC
set_option maxHeartbeats 1000000 in
theorem t8_leave_L74 {E : En} {X : Cx} {Q : State → Prop} {N : Nat} {v2 : Int32} {v3 : Int32} {v4 : Int32} {S : Mem} {o : ((Int32 × Mem) ⊕ (Mem))} (hF : Fx E X cX8_leave RX8 5 none 1) (h : f8_leave_L74 N v2 v3 v4 S = some o) (hC : Sum.elim (fun (s : (Int32 × Mem)) => J E X Q s.2 74 [(0, .ref (eA E 39)), (2, .int v2), (3, .int v3), (4, .int s.1)] []) (fun (x : (Mem)) => J E X Q x 114 [] []) o) : J E X Q S 74 [(0, .ref (eA E 39)), (2, .int v2), (3, .int v3), (4, .int v4)] [] := by
  unfold f8_leave_L74 at h
  refine j_iload_n hF rfl 1 rfl dX8_leave_74 ?_
  refine j_iload hF 3 rfl dX8_leave_75 ?_
  refine j_ishr hF dX8_leave_77 ?_
  refine j_if_eq (tgt := 114) hF h (by decide) dX8_leave_78 (fun h => ?_) (fun h => ?_)
  · obtain rfl := ret1 h
    refine j_sub (lv' := []) hF [] rfl ?_
    exact hC
  · refine j_iload hF 3 rfl dX8_leave_81 ?_
    refine j_bipush (v := (12 : Int32)) hF (by decide) dX8_leave_83 ?_
    refine j_icmp_ge (tgt := 114) hF h (by decide) dX8_leave_85 (fun h => ?_) (fun h => ?_)
    · obtain rfl := ret1 h
      refine j_sub (lv' := []) hF [] rfl ?_
      exact hC
    · refine j_aload_n hF rfl 0 rfl dX8_leave_88 ?_
      refine gf8_6 hF (by decide) (s_39 E _) rfl bw_1_173 dX8_leave_89 ?_
      refine j_iload hF 3 rfl dX8_leave_92 ?_
      refine j_bipush (v := (13 : Int32)) hF (by decide) dX8_leave_94 ?_
      refine j_imul hF dX8_leave_96 ?_
      refine j_iload_n hF rfl 2 rfl dX8_leave_97 ?_
      refine j_iadd hF dX8_leave_98 ?_
      refine j_iload_n hF rfl 1 rfl dX8_leave_99 ?_
      refine j_iload hF 3 rfl dX8_leave_100 ?_
      refine j_ishr hF dX8_leave_102 ?_
      refine j_iconst (v := (1 : Int32)) hF (by decide) dX8_leave_103 ?_
      refine j_iand hF dX8_leave_104 ?_
      obtain ⟨r12, S13, hr12, h⟩ := bnd_some h
      refine j_callV_v (As := [.int ((v4 * (13 : Int32)) + v3), .int ((v2 >>> (v4 &&& 31)) &&& (1 : Int32))]) (st := []) hF rfl mv_5_add (by decide) (s_48 E _) rfl bw_3_128 rfl (by decide) (Nat.le_of_ble_eq_true rfl) dX8_leave_105 (c5_add (ra_48 E) hr12) ?_
      refine j_iinc (v := (v4 + (1 : Int32))) (lv' := [(4, .int (v4 + (1 : Int32))), (0, .ref (eA E 39)), (2, .int v2), (3, .int v3)]) (q := 3) hF rfl (congrArg (fun z => v4 + z) (by decide)) (by decide) rfl dX8_leave_108 ?_
      refine j_nmL h (fun x14 h => ?_)
      refine j_goto (tgt := 74) hF (by decide) dX8_leave_111 ?_
      obtain rfl := ret1 h
      refine j_sub (lv' := [(0, .ref (eA E 39)), (2, .int v2), (3, .int v3), (4, .int x14)]) hF [1, 2, 3, 0] rfl ?_
      exact hC
set_option maxHeartbeats 1000000 in
theorem t8_leave_b114 {E : En} {X : Cx} {Q : State → Prop} {N : Nat} {S : Mem} {o : (Unit × Mem)} (hF : Fx E X cX8_leave RX8 5 none 1) (h : f8_leave_b114 N S = some o) (hC : Q = RQ E X (none) o.2) : J E X Q S 114 [] [] := by
  unfold f8_leave_b114 at h
  obtain rfl := ret1 h
  exact j_vret hF hC dX8_leave_114
set_option maxHeartbeats 1000000 in
theorem t8_leave_b57 {E : En} {X : Cx} {Q : State → Prop} {N : Nat} {v2 : Int32} {S : Mem} {o : (Unit × Mem)} (hF : Fx E X cX8_leave RX8 5 none 1) (h : f8_leave_b57 N v2 S = some o) (hC : Q = RQ E X (none) o.2) : J E X Q S 57 [(0, .ref (eA E 39)), (2, .int v2)] [] := by
  unfold f8_leave_b57 at h
  refine j_iload_n hF rfl 1 rfl dX8_leave_57 ?_
  obtain ⟨r9, hr9, h⟩ := bnp_some h
  refine j_callS_i (As := [.int v2]) (st := []) hF rfl mv_J6_bitCount bw_3_115 rfl (by decide) (Nat.le_of_ble_eq_true rfl) dX8_leave_58 (cJ6_bitCount hr9) ?_
  refine j_istore_n (lv' := [(3, .int r9), (0, .ref (eA E 39)), (2, .int v2)]) hF rfl (by decide) rfl dX8_leave_61 ?_
  refine j_aload_n hF rfl 1 rfl dX8_leave_62 ?_
  refine gf8_5 hF (by decide) (s_39 E _) rfl bw_1_172 dX8_leave_63 ?_
  refine j_iload_n hF rfl 0 rfl dX8_leave_66 ?_
  refine j_iconst (v := (1 : Int32)) hF (by decide) dX8_leave_67 ?_
  obtain ⟨r10, S11, hr10, h⟩ := bnd_some h
  refine j_callV_v (As := [.int r9, .int (1 : Int32)]) (st := []) hF rfl mv_5_add (by decide) (s_46 E _) rfl bw_3_128 rfl (by decide) (Nat.le_of_ble_eq_true rfl) dX8_leave_68 (c5_add (ra_46 E) hr10) ?_
  refine j_iconst (v := (0 : Int32)) hF (by decide) dX8_leave_71 ?_
  refine j_istore (lv' := [(4, .int (0 : Int32)), (3, .int r9), (0, .ref (eA E 39)), (2, .int v2)]) hF (by decide) rfl dX8_leave_72 ?_
  obtain ⟨z15, hz15, h⟩ := bnp_some h
  refine j_sub (lv' := [(0, .ref (eA E 39)), (2, .int v2), (3, .int r9), (4, .int (0 : Int32))]) hF [2, 3, 1, 0] rfl ?_
  have hx : (fun (x : (Mem)) => J E X Q x 114 [] []) z15 := by
    exact t8_leave_b114 hF h hC
  exact lp_rule (Jh := fun (s : (Int32 × Mem)) => J E X Q s.2 74 [(0, .ref (eA E 39)), (2, .int v2), (3, .int r9), (4, .int s.1)] []) (C := fun (x : (Mem)) => J E X Q x 114 [] []) (fun s o h hC => t8_leave_L74 hF h hC) N ((0 : Int32), S11) z15 hz15 hx
set_option maxHeartbeats 1000000 in
theorem t8_leave {E : En} {X : Cx} {Q : State → Prop} {N : Nat} {a1 : Int32} {a2 : Int32} {S : Mem} {o : (Unit × Mem)} (hF : Fx E X cX8_leave RX8 5 none 1) (h : f8_leave N a1 a2 S = some o) (hC : Q = RQ E X (none) o.2) : J E X Q S 0 [(0, .ref (eA E 39)), (1, .int a1), (2, .int a2)] [] := by
  unfold f8_leave at h
  refine j_aload_n hF rfl 0 rfl dX8_leave_0 ?_
  refine j_dup hF rfl dX8_leave_1 ?_
  refine gf8_8 hF (by decide) (s_39 E _) rfl bw_1_175 dX8_leave_2 ?_
  refine j_iconst (v := (1 : Int32)) hF (by decide) dX8_leave_5 ?_
  refine j_iadd hF dX8_leave_6 ?_
  refine pf8_8 hF (by decide) (s_39 E _) (s_39 E _) (Nat.le_of_ble_eq_true rfl) bw_1_175 dX8_leave_7 ?_
  refine j_nmM h (fun S1 h => ?_)
  refine j_aload_n hF rfl 0 rfl dX8_leave_10 ?_
  refine gf8_3 hF (by decide) (s_39 E _) rfl bw_1_170 dX8_leave_11 ?_
  refine j_iload_n hF rfl 1 rfl dX8_leave_14 ?_
  refine j_iconst (v := (5 : Int32)) hF (by decide) dX8_leave_15 ?_
  refine j_ishr hF dX8_leave_16 ?_
  refine j_iconst (v := (1 : Int32)) hF (by decide) dX8_leave_17 ?_
  refine j_iload_n hF rfl 1 rfl dX8_leave_18 ?_
  refine j_bipush (v := (31 : Int32)) hF (by decide) dX8_leave_19 ?_
  refine j_iand hF dX8_leave_21 ?_
  refine j_ishl hF dX8_leave_22 ?_
  obtain ⟨r2, S3, hr2, h⟩ := bnd_some h
  refine j_callV_v (As := [.int (a1 >>> ((5 : Int32) &&& 31)), .int ((1 : Int32) <<< ((a1 &&& (31 : Int32)) &&& 31))]) (st := []) hF rfl mv_5_join (by decide) (s_42 E _) rfl bw_3_89 rfl (by decide) (Nat.le_of_ble_eq_true rfl) dX8_leave_23 (c5_join (ra_42 E) hr2) ?_
  refine j_iconst (v := (0 : Int32)) hF (by decide) dX8_leave_26 ?_
  refine j_istore_n (lv' := [(3, .int (0 : Int32)), (0, .ref (eA E 39)), (1, .int a1), (2, .int a2)]) hF rfl (by decide) rfl dX8_leave_27 ?_
  obtain ⟨z8, hz8, h⟩ := bnp_some h
  refine j_sub (lv' := [(0, .ref (eA E 39)), (1, .int a1), (2, .int a2), (3, .int (0 : Int32))]) hF [1, 2, 3, 0] rfl ?_
  have hx : (fun (x : (Mem)) => J E X Q x 57 [(0, .ref (eA E 39)), (2, .int a2)] []) z8 := by
    exact t8_leave_b57 hF h hC
  exact lp_rule (Jh := fun (s : (Int32 × Mem)) => J E X Q s.2 28 [(0, .ref (eA E 39)), (1, .int a1), (2, .int a2), (3, .int s.1)] []) (C := fun (x : (Mem)) => J E X Q x 57 [(0, .ref (eA E 39)), (2, .int a2)] []) (fun s o h hC => t8_leave_L28 hF h hC) N ((0 : Int32), S3) z8 hz8 hx
set_option maxHeartbeats 1000000 in
theorem c8_leave {E : En} {N : Nat} {a1 : Int32} {a2 : Int32} {S So : Mem} {ro : Unit} (h : f8_leave N a1 a2 S = some (ro, So)) : CT E yX8_leave cX8_leave 5 none 1 [.ref (eA E 39), .int a1, .int a2] S (none) So :=
  CT_of (by decide) (Nat.le_of_ble_eq_true rfl) (fun X hF => t8_leave hF h rfl)
def f8_meet_b54 (N : Nat) (v1 : Int32) (v2 : Int32) (v3 : Int32) (S : Mem) : Option (Unit × Mem) :=
if v3 = 0 then
bnd (f8_leave N v1 (v2.toUInt32 >>> ((12 : Int32).toUInt32 &&& Int32.toUInt32 31)).toInt32 S) fun r3 S4 =>
some (((), S4))
else
some (((), S))
def f8_meet (N : Nat) (a1 : Int32) (a2 : Int32) (S : Mem) : Option (Unit × Mem) :=
lt_ (a2 &&& (4095 : Int32)) fun x1 =>
bnp (fJ6_bitCount N x1 S) fun r2 =>
if ((S 39).1 9) ≤ r2 then
if r2 = ((S 39).1 9) then
lt_ (wr S 39 10 (((S 39).1 10) &&& x1)) fun S5 =>
f8_meet_b54 N a1 a2 x1 S5
else
f8_meet_b54 N a1 a2 x1 S
else
lt_ (wr S 39 9 r2) fun S6 =>
lt_ (wr S6 39 10 x1) fun S7 =>
f8_meet_b54 N a1 a2 x1 S7
set_option maxHeartbeats 1000000 in
theorem t8_meet_b54 {E : En} {X : Cx} {Q : State → Prop} {N : Nat} {v1 : Int32} {v2 : Int32} {v3 : Int32} {S : Mem} {o : (Unit × Mem)} (hF : Fx E X cX8_meet RX8 5 none 2) (h : f8_meet_b54 N v1 v2 v3 S = some o) (hC : Q = RQ E X (none) o.2) : J E X Q S 54 [(0, .ref (eA E 39)), (1, .int v1), (2, .int v2), (3, .int v3)] [] := by
  unfold f8_meet_b54 at h
  refine j_iload_n hF rfl 3 rfl dX8_meet_54 ?_
  refine j_if_ne (tgt := 67) hF h (by decide) dX8_meet_55 (fun h => ?_) (fun h => ?_)
  · obtain rfl := ret1 h
    exact j_vret hF hC dX8_meet_67
  · refine j_aload_n hF rfl 0 rfl dX8_meet_58 ?_
    refine j_iload_n hF rfl 1 rfl dX8_meet_59 ?_
    refine j_iload_n hF rfl 2 rfl dX8_meet_60 ?_
    refine j_bipush (v := (12 : Int32)) hF (by decide) dX8_meet_61 ?_
    refine j_iushr hF dX8_meet_63 ?_
    obtain ⟨r3, S4, hr3, h⟩ := bnd_some h
    refine j_callV_v (As := [.int v1, .int (v2.toUInt32 >>> ((12 : Int32).toUInt32 &&& Int32.toUInt32 31)).toInt32]) (st := []) hF rfl mv_8_leave (by decide) (s_39 E _) rfl bw_3_121 rfl (by decide) (Nat.le_of_ble_eq_true rfl) dX8_meet_64 (c8_leave hr3) ?_
    obtain rfl := ret1 h
    exact j_vret hF hC dX8_meet_67
set_option maxHeartbeats 1000000 in
theorem t8_meet {E : En} {X : Cx} {Q : State → Prop} {N : Nat} {a1 : Int32} {a2 : Int32} {S : Mem} {o : (Unit × Mem)} (hF : Fx E X cX8_meet RX8 5 none 2) (h : f8_meet N a1 a2 S = some o) (hC : Q = RQ E X (none) o.2) : J E X Q S 0 [(0, .ref (eA E 39)), (1, .int a1), (2, .int a2)] [] := by
  unfold f8_meet at h
  refine j_iload_n hF rfl 2 rfl dX8_meet_0 ?_
  refine j_sipush (v := (4095 : Int32)) hF (by decide) dX8_meet_1 ?_
  refine j_iand hF dX8_meet_4 ?_
  refine j_istore_n (lv' := [(3, .int (a2 &&& (4095 : Int32))), (0, .ref (eA E 39)), (1, .int a1), (2, .int a2)]) hF rfl (by decide) rfl dX8_meet_5 ?_
  refine j_nmL h (fun x1 h => ?_)
  refine j_iload_n hF rfl 0 rfl dX8_meet_6 ?_
  obtain ⟨r2, hr2, h⟩ := bnp_some h
  refine j_callS_i (As := [.int x1]) (st := []) hF rfl mv_J6_bitCount bw_3_115 rfl (by decide) (Nat.le_of_ble_eq_true rfl) dX8_meet_7 (cJ6_bitCount hr2) ?_
  refine j_istore (lv' := [(4, .int r2), (3, .int x1), (0, .ref (eA E 39)), (1, .int a1), (2, .int a2)]) hF (by decide) rfl dX8_meet_10 ?_
  refine j_iload hF 0 rfl dX8_meet_12 ?_
  refine j_aload_n hF rfl 2 rfl dX8_meet_14 ?_
  refine gf8_9 hF (by decide) (s_39 E _) rfl bw_1_176 dX8_meet_15 ?_
  refine j_icmp_ge (tgt := 35) hF h (by decide) dX8_meet_18 (fun h => ?_) (fun h => ?_)
  · refine j_iload hF 0 rfl dX8_meet_35 ?_
    refine j_aload_n hF rfl 2 rfl dX8_meet_37 ?_
    refine gf8_9 hF (by decide) (s_39 E _) rfl bw_1_176 dX8_meet_38 ?_
    refine j_icmp_ne (tgt := 54) hF h (by decide) dX8_meet_41 (fun h => ?_) (fun h => ?_)
    · refine j_sub (lv' := [(0, .ref (eA E 39)), (1, .int a1), (2, .int a2), (3, .int x1)]) hF [2, 3, 4, 1] rfl ?_
      exact t8_meet_b54 hF h hC
    · refine j_aload_n hF rfl 2 rfl dX8_meet_44 ?_
      refine j_dup hF rfl dX8_meet_45 ?_
      refine gf8_10 hF (by decide) (s_39 E _) rfl bw_1_177 dX8_meet_46 ?_
      refine j_iload_n hF rfl 1 rfl dX8_meet_49 ?_
      refine j_iand hF dX8_meet_50 ?_
      refine pf8_10 hF (by decide) (s_39 E _) (s_39 E _) (Nat.le_of_ble_eq_true rfl) bw_1_177 dX8_meet_51 ?_
      refine j_nmM h (fun S5 h => ?_)
      refine j_sub (lv' := [(0, .ref (eA E 39)), (1, .int a1), (2, .int a2), (3, .int x1)]) hF [2, 3, 4, 1] rfl ?_
      exact t8_meet_b54 hF h hC
  · refine j_aload_n hF rfl 2 rfl dX8_meet_21 ?_
    refine j_iload hF 0 rfl dX8_meet_22 ?_
    refine pf8_9 hF (by decide) (s_39 E _) (s_39 E _) (Nat.le_of_ble_eq_true rfl) bw_1_176 dX8_meet_24 ?_
    refine j_nmM h (fun S6 h => ?_)
    refine j_aload_n hF rfl 2 rfl dX8_meet_27 ?_
    refine j_iload_n hF rfl 1 rfl dX8_meet_28 ?_
    refine pf8_10 hF (by decide) (s_39 E _) (s_39 E _) (Nat.le_of_ble_eq_true rfl) bw_1_177 dX8_meet_29 ?_
    refine j_nmM h (fun S7 h => ?_)
    refine j_goto (tgt := 54) hF (by decide) dX8_meet_32 ?_
    refine j_sub (lv' := [(0, .ref (eA E 39)), (1, .int a1), (2, .int a2), (3, .int x1)]) hF [2, 3, 4, 1] rfl ?_
    exact t8_meet_b54 hF h hC
set_option maxHeartbeats 1000000 in
theorem c8_meet {E : En} {N : Nat} {a1 : Int32} {a2 : Int32} {S So : Mem} {ro : Unit} (h : f8_meet N a1 a2 S = some (ro, So)) : CT E yX8_meet cX8_meet 5 none 2 [.ref (eA E 39), .int a1, .int a2] S (none) So :=
  CT_of (by decide) (Nat.le_of_ble_eq_true rfl) (fun X hF => t8_meet hF h rfl)
def f8_meetWorldsWith_L84 (N : Nat) (v1 : Int32) (v2 : Int32) (v3 : Int32) (v4 : Int32) (v5 : Int32) (v6 : Int32) (v7 : Int32) (S : Mem) : Option ((Int32 × Mem) ⊕ (Mem)) :=
bnp (f8_mostOf N (2 : Int32) S) fun r12 =>
if r12 < v7 then
some (.inr (S))
else
bnp (f8_code N (4 : Int32) (v1 + v7) S) fun r13 =>
bnp (f8_code N (5 : Int32) ((v1 + v3) + v7) S) fun r14 =>
bnp (f8_code N (6 : Int32) ((v1 + v5) + v7) S) fun r15 =>
bnp (f8_code N (7 : Int32) (((v1 + v3) + v5) + v7) S) fun r16 =>
lt_ ((((v6 ||| r13) ||| r14) ||| r15) ||| r16) fun x17 =>
bnd (f8_meet N ((((v3 * (1000 : Int32)) + (v5 * (100 : Int32))) + (v7 * (10 : Int32))) + v1) x17 S) fun r18 S19 =>
lt_ (v7 + (1 : Int32)) fun x20 =>
some (.inl (x20, S19))
def f8_meetWorldsWith_b181 (N : Nat) (v1 : Int32) (v2 : Int32) (v3 : Int32) (v4 : Int32) (v5 : Int32) (S : Mem) : Option ((Int32 × Mem) ⊕ (Mem)) :=
lt_ (v5 + (1 : Int32)) fun x22 =>
some (.inl (x22, S))
def f8_meetWorldsWith_L41 (N : Nat) (v1 : Int32) (v2 : Int32) (v3 : Int32) (v4 : Int32) (v5 : Int32) (S : Mem) : Option ((Int32 × Mem) ⊕ (Mem)) :=
bnp (f8_mostOf N (1 : Int32) S) fun r7 =>
if r7 < v5 then
some (.inr (S))
else
bnp (f8_code N (2 : Int32) (v1 + v5) S) fun r8 =>
bnp (f8_code N (3 : Int32) ((v1 + v3) + v5) S) fun r9 =>
lt_ ((v4 ||| r8) ||| r9) fun x10 =>
bnp (f8_leastOf N (2 : Int32) S) fun r11 =>
bnp (lp N (fun s => f8_meetWorldsWith_L84 N v1 v2 v3 v4 v5 x10 s.1 s.2) (r11, S)) fun z21 =>
f8_meetWorldsWith_b181 N v1 v2 v3 v4 v5 z21
def f8_meetWorldsWith_b187 (N : Nat) (v1 : Int32) (v2 : Int32) (v3 : Int32) (S : Mem) : Option ((Int32 × Mem) ⊕ (Mem)) :=
lt_ (v3 + (1 : Int32)) fun x24 =>
some (.inl (x24, S))
def f8_meetWorldsWith_L13 (N : Nat) (v1 : Int32) (v2 : Int32) (v3 : Int32) (S : Mem) : Option ((Int32 × Mem) ⊕ (Mem)) :=
bnp (f8_mostOf N (0 : Int32) S) fun r3 =>
if r3 < v3 then
some (.inr (S))
else
bnp (f8_code N (1 : Int32) (v1 + v3) S) fun r4 =>
lt_ (v2 ||| r4) fun x5 =>
bnp (f8_leastOf N (1 : Int32) S) fun r6 =>
bnp (lp N (fun s => f8_meetWorldsWith_L41 N v1 v2 v3 x5 s.1 s.2) (r6, S)) fun z23 =>
f8_meetWorldsWith_b187 N v1 v2 v3 z23
def f8_meetWorldsWith_b193 (N : Nat) (S : Mem) : Option (Unit × Mem) :=
some (((), S))
def f8_meetWorldsWith (N : Nat) (a1 : Int32) (S : Mem) : Option (Unit × Mem) :=
bnp (f8_code N (0 : Int32) a1 S) fun r1 =>
bnp (f8_leastOf N (0 : Int32) S) fun r2 =>
bnp (lp N (fun s => f8_meetWorldsWith_L13 N a1 r1 s.1 s.2) (r2, S)) fun z25 =>
f8_meetWorldsWith_b193 N z25
set_option maxHeartbeats 1000000 in
theorem t8_meetWorldsWith_L84 {E : En} {X : Cx} {Q : State → Prop} {N : Nat} {v1 : Int32} {v2 : Int32} {v3 : Int32} {v4 : Int32} {v5 : Int32} {v6 : Int32} {v7 : Int32} {S : Mem} {o : ((Int32 × Mem) ⊕ (Mem))} (hF : Fx E X cX8_meetWorldsWith RX8 9 none 3) (h : f8_meetWorldsWith_L84 N v1 v2 v3 v4 v5 v6 v7 S = some o) (hC : Sum.elim (fun (s : (Int32 × Mem)) => J E X Q s.2 84 [(0, .ref (eA E 39)), (1, .int v1), (2, .int v2), (3, .int v3), (4, .int v4), (5, .int v5), (6, .int v6), (7, .int s.1)] []) (fun (x : (Mem)) => J E X Q x 181 [(0, .ref (eA E 39)), (1, .int v1), (2, .int v2), (3, .int v3), (4, .int v4), (5, .int v5)] []) o) : J E X Q S 84 [(0, .ref (eA E 39)), (1, .int v1), (2, .int v2), (3, .int v3), (4, .int v4), (5, .int v5), (6, .int v6), (7, .int v7)] [] := by
  unfold f8_meetWorldsWith_L84 at h
  refine j_iload hF 7 rfl dX8_meetWorldsWith_84 ?_
  refine j_aload_n hF rfl 0 rfl dX8_meetWorldsWith_86 ?_
  refine j_iconst (v := (2 : Int32)) hF (by decide) dX8_meetWorldsWith_87 ?_
  obtain ⟨r12, hr12, h⟩ := bnp_some h
  refine j_callV_i (As := [.int (2 : Int32)]) (st := [.int v7]) hF rfl mv_8_mostOf (by decide) (s_39 E _) rfl bw_3_107 rfl (by decide) (Nat.le_of_ble_eq_true rfl) dX8_meetWorldsWith_88 (c8_mostOf hr12) ?_
  refine j_icmp_gt (tgt := 181) hF h (by decide) dX8_meetWorldsWith_91 (fun h => ?_) (fun h => ?_)
  · obtain rfl := ret1 h
    refine j_sub (lv' := [(0, .ref (eA E 39)), (1, .int v1), (2, .int v2), (3, .int v3), (4, .int v4), (5, .int v5)]) hF [0, 1, 2, 3, 4, 5] rfl ?_
    exact hC
  · refine j_iload hF 6 rfl dX8_meetWorldsWith_94 ?_
    refine j_aload_n hF rfl 0 rfl dX8_meetWorldsWith_96 ?_
    refine j_iconst (v := (4 : Int32)) hF (by decide) dX8_meetWorldsWith_97 ?_
    refine j_iload_n hF rfl 1 rfl dX8_meetWorldsWith_98 ?_
    refine j_iload hF 7 rfl dX8_meetWorldsWith_99 ?_
    refine j_iadd hF dX8_meetWorldsWith_101 ?_
    obtain ⟨r13, hr13, h⟩ := bnp_some h
    refine j_callV_i (As := [.int (4 : Int32), .int (v1 + v7)]) (st := [.int v6]) hF rfl mv_8_code (by decide) (s_39 E _) rfl bw_3_97 rfl (by decide) (Nat.le_of_ble_eq_true rfl) dX8_meetWorldsWith_102 (c8_code hr13) ?_
    refine j_ior hF dX8_meetWorldsWith_105 ?_
    refine j_aload_n hF rfl 0 rfl dX8_meetWorldsWith_106 ?_
    refine j_iconst (v := (5 : Int32)) hF (by decide) dX8_meetWorldsWith_107 ?_
    refine j_iload_n hF rfl 1 rfl dX8_meetWorldsWith_108 ?_
    refine j_iload_n hF rfl 3 rfl dX8_meetWorldsWith_109 ?_
    refine j_iadd hF dX8_meetWorldsWith_110 ?_
    refine j_iload hF 7 rfl dX8_meetWorldsWith_111 ?_
    refine j_iadd hF dX8_meetWorldsWith_113 ?_
    obtain ⟨r14, hr14, h⟩ := bnp_some h
    refine j_callV_i (As := [.int (5 : Int32), .int ((v1 + v3) + v7)]) (st := [.int (v6 ||| r13)]) hF rfl mv_8_code (by decide) (s_39 E _) rfl bw_3_97 rfl (by decide) (Nat.le_of_ble_eq_true rfl) dX8_meetWorldsWith_114 (c8_code hr14) ?_
    refine j_ior hF dX8_meetWorldsWith_117 ?_
    refine j_aload_n hF rfl 0 rfl dX8_meetWorldsWith_118 ?_
    refine j_bipush (v := (6 : Int32)) hF (by decide) dX8_meetWorldsWith_119 ?_
    refine j_iload_n hF rfl 1 rfl dX8_meetWorldsWith_121 ?_
    refine j_iload hF 5 rfl dX8_meetWorldsWith_122 ?_
    refine j_iadd hF dX8_meetWorldsWith_124 ?_
    refine j_iload hF 7 rfl dX8_meetWorldsWith_125 ?_
    refine j_iadd hF dX8_meetWorldsWith_127 ?_
    obtain ⟨r15, hr15, h⟩ := bnp_some h
    refine j_callV_i (As := [.int (6 : Int32), .int ((v1 + v5) + v7)]) (st := [.int ((v6 ||| r13) ||| r14)]) hF rfl mv_8_code (by decide) (s_39 E _) rfl bw_3_97 rfl (by decide) (Nat.le_of_ble_eq_true rfl) dX8_meetWorldsWith_128 (c8_code hr15) ?_
    refine j_ior hF dX8_meetWorldsWith_131 ?_
    refine j_aload_n hF rfl 0 rfl dX8_meetWorldsWith_132 ?_
    refine j_bipush (v := (7 : Int32)) hF (by decide) dX8_meetWorldsWith_133 ?_
    refine j_iload_n hF rfl 1 rfl dX8_meetWorldsWith_135 ?_
    refine j_iload_n hF rfl 3 rfl dX8_meetWorldsWith_136 ?_
    refine j_iadd hF dX8_meetWorldsWith_137 ?_
    refine j_iload hF 5 rfl dX8_meetWorldsWith_138 ?_
    refine j_iadd hF dX8_meetWorldsWith_140 ?_
    refine j_iload hF 7 rfl dX8_meetWorldsWith_141 ?_
    refine j_iadd hF dX8_meetWorldsWith_143 ?_
    obtain ⟨r16, hr16, h⟩ := bnp_some h
    refine j_callV_i (As := [.int (7 : Int32), .int (((v1 + v3) + v5) + v7)]) (st := [.int (((v6 ||| r13) ||| r14) ||| r15)]) hF rfl mv_8_code (by decide) (s_39 E _) rfl bw_3_97 rfl (by decide) (Nat.le_of_ble_eq_true rfl) dX8_meetWorldsWith_144 (c8_code hr16) ?_
    refine j_ior hF dX8_meetWorldsWith_147 ?_
    refine j_istore (lv' := [(8, .int ((((v6 ||| r13) ||| r14) ||| r15) ||| r16)), (0, .ref (eA E 39)), (1, .int v1), (2, .int v2), (3, .int v3), (4, .int v4), (5, .int v5), (6, .int v6), (7, .int v7)]) hF (by decide) rfl dX8_meetWorldsWith_148 ?_
    refine j_nmL h (fun x17 h => ?_)
    refine j_aload_n hF rfl 1 rfl dX8_meetWorldsWith_150 ?_
    refine j_iload_n hF rfl 4 rfl dX8_meetWorldsWith_151 ?_
    refine j_sipush (v := (1000 : Int32)) hF (by decide) dX8_meetWorldsWith_152 ?_
    refine j_imul hF dX8_meetWorldsWith_155 ?_
    refine j_iload hF 6 rfl dX8_meetWorldsWith_156 ?_
    refine j_bipush (v := (100 : Int32)) hF (by decide) dX8_meetWorldsWith_158 ?_
    refine j_imul hF dX8_meetWorldsWith_160 ?_
    refine j_iadd hF dX8_meetWorldsWith_161 ?_
    refine j_iload hF 8 rfl dX8_meetWorldsWith_162 ?_
    refine j_bipush (v := (10 : Int32)) hF (by decide) dX8_meetWorldsWith_164 ?_
    refine j_imul hF dX8_meetWorldsWith_166 ?_
    refine j_iadd hF dX8_meetWorldsWith_167 ?_
    refine j_iload_n hF rfl 2 rfl dX8_meetWorldsWith_168 ?_
    refine j_iadd hF dX8_meetWorldsWith_169 ?_
    refine j_iload hF 0 rfl dX8_meetWorldsWith_170 ?_
    obtain ⟨r18, S19, hr18, h⟩ := bnd_some h
    refine j_callV_v (As := [.int ((((v3 * (1000 : Int32)) + (v5 * (100 : Int32))) + (v7 * (10 : Int32))) + v1), .int x17]) (st := []) hF rfl mv_8_meet (by decide) (s_39 E _) rfl bw_3_111 rfl (by decide) (Nat.le_of_ble_eq_true rfl) dX8_meetWorldsWith_172 (c8_meet hr18) ?_
    refine j_iinc (v := (v7 + (1 : Int32))) (lv' := [(7, .int (v7 + (1 : Int32))), (8, .int x17), (0, .ref (eA E 39)), (1, .int v1), (2, .int v2), (3, .int v3), (4, .int v4), (5, .int v5), (6, .int v6)]) (q := 8) hF rfl (congrArg (fun z => v7 + z) (by decide)) (by decide) rfl dX8_meetWorldsWith_175 ?_
    refine j_nmL h (fun x20 h => ?_)
    refine j_goto (tgt := 84) hF (by decide) dX8_meetWorldsWith_178 ?_
    obtain rfl := ret1 h
    refine j_sub (lv' := [(0, .ref (eA E 39)), (1, .int v1), (2, .int v2), (3, .int v3), (4, .int v4), (5, .int v5), (6, .int v6), (7, .int x20)]) hF [2, 3, 4, 5, 6, 7, 8, 0] rfl ?_
    exact hC
set_option maxHeartbeats 1000000 in
theorem t8_meetWorldsWith_b181 {E : En} {X : Cx} {Q : State → Prop} {N : Nat} {v1 : Int32} {v2 : Int32} {v3 : Int32} {v4 : Int32} {v5 : Int32} {S : Mem} {o : ((Int32 × Mem) ⊕ (Mem))} (hF : Fx E X cX8_meetWorldsWith RX8 9 none 3) (h : f8_meetWorldsWith_b181 N v1 v2 v3 v4 v5 S = some o) (hC : Sum.elim (fun (s : (Int32 × Mem)) => J E X Q s.2 41 [(0, .ref (eA E 39)), (1, .int v1), (2, .int v2), (3, .int v3), (4, .int v4), (5, .int s.1)] []) (fun (x : (Mem)) => J E X Q x 187 [(0, .ref (eA E 39)), (1, .int v1), (2, .int v2), (3, .int v3)] []) o) : J E X Q S 181 [(0, .ref (eA E 39)), (1, .int v1), (2, .int v2), (3, .int v3), (4, .int v4), (5, .int v5)] [] := by
  unfold f8_meetWorldsWith_b181 at h
  refine j_iinc (v := (v5 + (1 : Int32))) (lv' := [(5, .int (v5 + (1 : Int32))), (0, .ref (eA E 39)), (1, .int v1), (2, .int v2), (3, .int v3), (4, .int v4)]) (q := 5) hF rfl (congrArg (fun z => v5 + z) (by decide)) (by decide) rfl dX8_meetWorldsWith_181 ?_
  refine j_nmL h (fun x22 h => ?_)
  refine j_goto (tgt := 41) hF (by decide) dX8_meetWorldsWith_184 ?_
  obtain rfl := ret1 h
  refine j_sub (lv' := [(0, .ref (eA E 39)), (1, .int v1), (2, .int v2), (3, .int v3), (4, .int v4), (5, .int x22)]) hF [1, 2, 3, 4, 5, 0] rfl ?_
  exact hC
set_option maxHeartbeats 1000000 in
theorem t8_meetWorldsWith_L41 {E : En} {X : Cx} {Q : State → Prop} {N : Nat} {v1 : Int32} {v2 : Int32} {v3 : Int32} {v4 : Int32} {v5 : Int32} {S : Mem} {o : ((Int32 × Mem) ⊕ (Mem))} (hF : Fx E X cX8_meetWorldsWith RX8 9 none 3) (h : f8_meetWorldsWith_L41 N v1 v2 v3 v4 v5 S = some o) (hC : Sum.elim (fun (s : (Int32 × Mem)) => J E X Q s.2 41 [(0, .ref (eA E 39)), (1, .int v1), (2, .int v2), (3, .int v3), (4, .int v4), (5, .int s.1)] []) (fun (x : (Mem)) => J E X Q x 187 [(0, .ref (eA E 39)), (1, .int v1), (2, .int v2), (3, .int v3)] []) o) : J E X Q S 41 [(0, .ref (eA E 39)), (1, .int v1), (2, .int v2), (3, .int v3), (4, .int v4), (5, .int v5)] [] := by
  unfold f8_meetWorldsWith_L41 at h
  refine j_iload hF 5 rfl dX8_meetWorldsWith_41 ?_
  refine j_aload_n hF rfl 0 rfl dX8_meetWorldsWith_43 ?_
  refine j_iconst (v := (1 : Int32)) hF (by decide) dX8_meetWorldsWith_44 ?_
  obtain ⟨r7, hr7, h⟩ := bnp_some h
  refine j_callV_i (As := [.int (1 : Int32)]) (st := [.int v5]) hF rfl mv_8_mostOf (by decide) (s_39 E _) rfl bw_3_107 rfl (by decide) (Nat.le_of_ble_eq_true rfl) dX8_meetWorldsWith_45 (c8_mostOf hr7) ?_
  refine j_icmp_gt (tgt := 187) hF h (by decide) dX8_meetWorldsWith_48 (fun h => ?_) (fun h => ?_)
  · obtain rfl := ret1 h
    refine j_sub (lv' := [(0, .ref (eA E 39)), (1, .int v1), (2, .int v2), (3, .int v3)]) hF [0, 1, 2, 3] rfl ?_
    exact hC
  · refine j_iload hF 4 rfl dX8_meetWorldsWith_51 ?_
    refine j_aload_n hF rfl 0 rfl dX8_meetWorldsWith_53 ?_
    refine j_iconst (v := (2 : Int32)) hF (by decide) dX8_meetWorldsWith_54 ?_
    refine j_iload_n hF rfl 1 rfl dX8_meetWorldsWith_55 ?_
    refine j_iload hF 5 rfl dX8_meetWorldsWith_56 ?_
    refine j_iadd hF dX8_meetWorldsWith_58 ?_
    obtain ⟨r8, hr8, h⟩ := bnp_some h
    refine j_callV_i (As := [.int (2 : Int32), .int (v1 + v5)]) (st := [.int v4]) hF rfl mv_8_code (by decide) (s_39 E _) rfl bw_3_97 rfl (by decide) (Nat.le_of_ble_eq_true rfl) dX8_meetWorldsWith_59 (c8_code hr8) ?_
    refine j_ior hF dX8_meetWorldsWith_62 ?_
    refine j_aload_n hF rfl 0 rfl dX8_meetWorldsWith_63 ?_
    refine j_iconst (v := (3 : Int32)) hF (by decide) dX8_meetWorldsWith_64 ?_
    refine j_iload_n hF rfl 1 rfl dX8_meetWorldsWith_65 ?_
    refine j_iload_n hF rfl 3 rfl dX8_meetWorldsWith_66 ?_
    refine j_iadd hF dX8_meetWorldsWith_67 ?_
    refine j_iload hF 5 rfl dX8_meetWorldsWith_68 ?_
    refine j_iadd hF dX8_meetWorldsWith_70 ?_
    obtain ⟨r9, hr9, h⟩ := bnp_some h
    refine j_callV_i (As := [.int (3 : Int32), .int ((v1 + v3) + v5)]) (st := [.int (v4 ||| r8)]) hF rfl mv_8_code (by decide) (s_39 E _) rfl bw_3_97 rfl (by decide) (Nat.le_of_ble_eq_true rfl) dX8_meetWorldsWith_71 (c8_code hr9) ?_
    refine j_ior hF dX8_meetWorldsWith_74 ?_
    refine j_istore (lv' := [(6, .int ((v4 ||| r8) ||| r9)), (0, .ref (eA E 39)), (1, .int v1), (2, .int v2), (3, .int v3), (4, .int v4), (5, .int v5)]) hF (by decide) rfl dX8_meetWorldsWith_75 ?_
    refine j_nmL h (fun x10 h => ?_)
    refine j_aload_n hF rfl 1 rfl dX8_meetWorldsWith_77 ?_
    refine j_iconst (v := (2 : Int32)) hF (by decide) dX8_meetWorldsWith_78 ?_
    obtain ⟨r11, hr11, h⟩ := bnp_some h
    refine j_callV_i (As := [.int (2 : Int32)]) (st := []) hF rfl mv_8_leastOf (by decide) (s_39 E _) rfl bw_3_102 rfl (by decide) (Nat.le_of_ble_eq_true rfl) dX8_meetWorldsWith_79 (c8_leastOf hr11) ?_
    refine j_istore (lv' := [(7, .int r11), (6, .int x10), (0, .ref (eA E 39)), (1, .int v1), (2, .int v2), (3, .int v3), (4, .int v4), (5, .int v5)]) hF (by decide) rfl dX8_meetWorldsWith_82 ?_
    obtain ⟨z21, hz21, h⟩ := bnp_some h
    refine j_sub (lv' := [(0, .ref (eA E 39)), (1, .int v1), (2, .int v2), (3, .int v3), (4, .int v4), (5, .int v5), (6, .int x10), (7, .int r11)]) hF [2, 3, 4, 5, 6, 7, 1, 0] rfl ?_
    have hx : (fun (x : (Mem)) => J E X Q x 181 [(0, .ref (eA E 39)), (1, .int v1), (2, .int v2), (3, .int v3), (4, .int v4), (5, .int v5)] []) z21 := by
      exact t8_meetWorldsWith_b181 hF h hC
    exact lp_rule (Jh := fun (s : (Int32 × Mem)) => J E X Q s.2 84 [(0, .ref (eA E 39)), (1, .int v1), (2, .int v2), (3, .int v3), (4, .int v4), (5, .int v5), (6, .int x10), (7, .int s.1)] []) (C := fun (x : (Mem)) => J E X Q x 181 [(0, .ref (eA E 39)), (1, .int v1), (2, .int v2), (3, .int v3), (4, .int v4), (5, .int v5)] []) (fun s o h hC => t8_meetWorldsWith_L84 hF h hC) N (r11, S) z21 hz21 hx
set_option maxHeartbeats 1000000 in
theorem t8_meetWorldsWith_b187 {E : En} {X : Cx} {Q : State → Prop} {N : Nat} {v1 : Int32} {v2 : Int32} {v3 : Int32} {S : Mem} {o : ((Int32 × Mem) ⊕ (Mem))} (hF : Fx E X cX8_meetWorldsWith RX8 9 none 3) (h : f8_meetWorldsWith_b187 N v1 v2 v3 S = some o) (hC : Sum.elim (fun (s : (Int32 × Mem)) => J E X Q s.2 13 [(0, .ref (eA E 39)), (1, .int v1), (2, .int v2), (3, .int s.1)] []) (fun (x : (Mem)) => J E X Q x 193 [] []) o) : J E X Q S 187 [(0, .ref (eA E 39)), (1, .int v1), (2, .int v2), (3, .int v3)] [] := by
  unfold f8_meetWorldsWith_b187 at h
  refine j_iinc (v := (v3 + (1 : Int32))) (lv' := [(3, .int (v3 + (1 : Int32))), (0, .ref (eA E 39)), (1, .int v1), (2, .int v2)]) (q := 3) hF rfl (congrArg (fun z => v3 + z) (by decide)) (by decide) rfl dX8_meetWorldsWith_187 ?_
  refine j_nmL h (fun x24 h => ?_)
  refine j_goto (tgt := 13) hF (by decide) dX8_meetWorldsWith_190 ?_
  obtain rfl := ret1 h
  refine j_sub (lv' := [(0, .ref (eA E 39)), (1, .int v1), (2, .int v2), (3, .int x24)]) hF [1, 2, 3, 0] rfl ?_
  exact hC
set_option maxHeartbeats 1000000 in
theorem t8_meetWorldsWith_L13 {E : En} {X : Cx} {Q : State → Prop} {N : Nat} {v1 : Int32} {v2 : Int32} {v3 : Int32} {S : Mem} {o : ((Int32 × Mem) ⊕ (Mem))} (hF : Fx E X cX8_meetWorldsWith RX8 9 none 3) (h : f8_meetWorldsWith_L13 N v1 v2 v3 S = some o) (hC : Sum.elim (fun (s : (Int32 × Mem)) => J E X Q s.2 13 [(0, .ref (eA E 39)), (1, .int v1), (2, .int v2), (3, .int s.1)] []) (fun (x : (Mem)) => J E X Q x 193 [] []) o) : J E X Q S 13 [(0, .ref (eA E 39)), (1, .int v1), (2, .int v2), (3, .int v3)] [] := by
  unfold f8_meetWorldsWith_L13 at h
  refine j_iload_n hF rfl 3 rfl dX8_meetWorldsWith_13 ?_
  refine j_aload_n hF rfl 0 rfl dX8_meetWorldsWith_14 ?_
  refine j_iconst (v := (0 : Int32)) hF (by decide) dX8_meetWorldsWith_15 ?_
  obtain ⟨r3, hr3, h⟩ := bnp_some h
  refine j_callV_i (As := [.int (0 : Int32)]) (st := [.int v3]) hF rfl mv_8_mostOf (by decide) (s_39 E _) rfl bw_3_107 rfl (by decide) (Nat.le_of_ble_eq_true rfl) dX8_meetWorldsWith_16 (c8_mostOf hr3) ?_
  refine j_icmp_gt (tgt := 193) hF h (by decide) dX8_meetWorldsWith_19 (fun h => ?_) (fun h => ?_)
  · obtain rfl := ret1 h
    refine j_sub (lv' := []) hF [] rfl ?_
    exact hC
  · refine j_iload_n hF rfl 2 rfl dX8_meetWorldsWith_22 ?_
    refine j_aload_n hF rfl 0 rfl dX8_meetWorldsWith_23 ?_
    refine j_iconst (v := (1 : Int32)) hF (by decide) dX8_meetWorldsWith_24 ?_
    refine j_iload_n hF rfl 1 rfl dX8_meetWorldsWith_25 ?_
    refine j_iload_n hF rfl 3 rfl dX8_meetWorldsWith_26 ?_
    refine j_iadd hF dX8_meetWorldsWith_27 ?_
    obtain ⟨r4, hr4, h⟩ := bnp_some h
    refine j_callV_i (As := [.int (1 : Int32), .int (v1 + v3)]) (st := [.int v2]) hF rfl mv_8_code (by decide) (s_39 E _) rfl bw_3_97 rfl (by decide) (Nat.le_of_ble_eq_true rfl) dX8_meetWorldsWith_28 (c8_code hr4) ?_
    refine j_ior hF dX8_meetWorldsWith_31 ?_
    refine j_istore (lv' := [(4, .int (v2 ||| r4)), (0, .ref (eA E 39)), (1, .int v1), (2, .int v2), (3, .int v3)]) hF (by decide) rfl dX8_meetWorldsWith_32 ?_
    refine j_nmL h (fun x5 h => ?_)
    refine j_aload_n hF rfl 1 rfl dX8_meetWorldsWith_34 ?_
    refine j_iconst (v := (1 : Int32)) hF (by decide) dX8_meetWorldsWith_35 ?_
    obtain ⟨r6, hr6, h⟩ := bnp_some h
    refine j_callV_i (As := [.int (1 : Int32)]) (st := []) hF rfl mv_8_leastOf (by decide) (s_39 E _) rfl bw_3_102 rfl (by decide) (Nat.le_of_ble_eq_true rfl) dX8_meetWorldsWith_36 (c8_leastOf hr6) ?_
    refine j_istore (lv' := [(5, .int r6), (4, .int x5), (0, .ref (eA E 39)), (1, .int v1), (2, .int v2), (3, .int v3)]) hF (by decide) rfl dX8_meetWorldsWith_39 ?_
    obtain ⟨z23, hz23, h⟩ := bnp_some h
    refine j_sub (lv' := [(0, .ref (eA E 39)), (1, .int v1), (2, .int v2), (3, .int v3), (4, .int x5), (5, .int r6)]) hF [2, 3, 4, 5, 1, 0] rfl ?_
    have hx : (fun (x : (Mem)) => J E X Q x 187 [(0, .ref (eA E 39)), (1, .int v1), (2, .int v2), (3, .int v3)] []) z23 := by
      exact t8_meetWorldsWith_b187 hF h hC
    exact lp_rule (Jh := fun (s : (Int32 × Mem)) => J E X Q s.2 41 [(0, .ref (eA E 39)), (1, .int v1), (2, .int v2), (3, .int v3), (4, .int x5), (5, .int s.1)] []) (C := fun (x : (Mem)) => J E X Q x 187 [(0, .ref (eA E 39)), (1, .int v1), (2, .int v2), (3, .int v3)] []) (fun s o h hC => t8_meetWorldsWith_L41 hF h hC) N (r6, S) z23 hz23 hx
set_option maxHeartbeats 1000000 in
theorem t8_meetWorldsWith_b193 {E : En} {X : Cx} {Q : State → Prop} {N : Nat} {S : Mem} {o : (Unit × Mem)} (hF : Fx E X cX8_meetWorldsWith RX8 9 none 3) (h : f8_meetWorldsWith_b193 N S = some o) (hC : Q = RQ E X (none) o.2) : J E X Q S 193 [] [] := by
  unfold f8_meetWorldsWith_b193 at h
  obtain rfl := ret1 h
  exact j_vret hF hC dX8_meetWorldsWith_193
set_option maxHeartbeats 1000000 in
theorem t8_meetWorldsWith {E : En} {X : Cx} {Q : State → Prop} {N : Nat} {a1 : Int32} {S : Mem} {o : (Unit × Mem)} (hF : Fx E X cX8_meetWorldsWith RX8 9 none 3) (h : f8_meetWorldsWith N a1 S = some o) (hC : Q = RQ E X (none) o.2) : J E X Q S 0 [(0, .ref (eA E 39)), (1, .int a1)] [] := by
  unfold f8_meetWorldsWith at h
  refine j_aload_n hF rfl 0 rfl dX8_meetWorldsWith_0 ?_
  refine j_iconst (v := (0 : Int32)) hF (by decide) dX8_meetWorldsWith_1 ?_
  refine j_iload_n hF rfl 1 rfl dX8_meetWorldsWith_2 ?_
  obtain ⟨r1, hr1, h⟩ := bnp_some h
  refine j_callV_i (As := [.int (0 : Int32), .int a1]) (st := []) hF rfl mv_8_code (by decide) (s_39 E _) rfl bw_3_97 rfl (by decide) (Nat.le_of_ble_eq_true rfl) dX8_meetWorldsWith_3 (c8_code hr1) ?_
  refine j_istore_n (lv' := [(2, .int r1), (0, .ref (eA E 39)), (1, .int a1)]) hF rfl (by decide) rfl dX8_meetWorldsWith_6 ?_
  refine j_aload_n hF rfl 1 rfl dX8_meetWorldsWith_7 ?_
  refine j_iconst (v := (0 : Int32)) hF (by decide) dX8_meetWorldsWith_8 ?_
  obtain ⟨r2, hr2, h⟩ := bnp_some h
  refine j_callV_i (As := [.int (0 : Int32)]) (st := []) hF rfl mv_8_leastOf (by decide) (s_39 E _) rfl bw_3_102 rfl (by decide) (Nat.le_of_ble_eq_true rfl) dX8_meetWorldsWith_9 (c8_leastOf hr2) ?_
  refine j_istore_n (lv' := [(3, .int r2), (2, .int r1), (0, .ref (eA E 39)), (1, .int a1)]) hF rfl (by decide) rfl dX8_meetWorldsWith_12 ?_
  obtain ⟨z25, hz25, h⟩ := bnp_some h
  refine j_sub (lv' := [(0, .ref (eA E 39)), (1, .int a1), (2, .int r1), (3, .int r2)]) hF [2, 3, 1, 0] rfl ?_
  have hx : (fun (x : (Mem)) => J E X Q x 193 [] []) z25 := by
    exact t8_meetWorldsWith_b193 hF h hC
  exact lp_rule (Jh := fun (s : (Int32 × Mem)) => J E X Q s.2 13 [(0, .ref (eA E 39)), (1, .int a1), (2, .int r1), (3, .int s.1)] []) (C := fun (x : (Mem)) => J E X Q x 193 [] []) (fun s o h hC => t8_meetWorldsWith_L13 hF h hC) N (r2, S) z25 hz25 hx
set_option maxHeartbeats 1000000 in
theorem c8_meetWorldsWith {E : En} {N : Nat} {a1 : Int32} {S So : Mem} {ro : Unit} (h : f8_meetWorldsWith N a1 S = some (ro, So)) : CT E yX8_meetWorldsWith cX8_meetWorldsWith 9 none 3 [.ref (eA E 39), .int a1] S (none) So :=
  CT_of (by decide) (Nat.le_of_ble_eq_true rfl) (fun X hF => t8_meetWorldsWith hF h rfl)
def f8_learn_L63 (N : Nat) (v1 : Int32) (S : Mem) : Option ((Int32 × Mem) ⊕ (Mem)) :=
if (9 : Int32) < v1 then
some (.inr (S))
else
bnd (f8_meetWorldsWith N v1 S) fun r15 S16 =>
lt_ (v1 + (1 : Int32)) fun x17 =>
some (.inl (x17, S16))
def f8_learn_b80 (N : Nat) (S : Mem) : Option (Unit × Mem) :=
some (((), S))
def f8_learn (N : Nat) (S : Mem) : Option (Unit × Mem) :=
if ((S 39).1 7) = 0 then
lt_ (wr S 39 7 (1 : Int32)) fun S1 =>
lt_ (wr S1 39 8 (0 : Int32)) fun S2 =>
lt_ (wr S2 39 9 (13 : Int32)) fun S3 =>
lt_ (wr S3 39 10 (0 : Int32)) fun S4 =>
bnd (f5_wipe N 42 313 S4) fun r5 S6 =>
bnd (f5_wipe N 44 40 S6) fun r7 S8 =>
bnd (f5_wipe N 46 13 S8) fun r9 S10 =>
bnd (f5_wipe N 48 156 S10) fun r11 S12 =>
bnd (f8_writeCodes N S12) fun r13 S14 =>
bnp (lp N (fun s => f8_learn_L63 N s.1 s.2) ((0 : Int32), S14)) fun z18 =>
f8_learn_b80 N z18
else
some (((), S))
set_option maxHeartbeats 1000000 in
theorem t8_learn_L63 {E : En} {X : Cx} {Q : State → Prop} {N : Nat} {v1 : Int32} {S : Mem} {o : ((Int32 × Mem) ⊕ (Mem))} (hF : Fx E X cX8_learn RX8 2 none 4) (h : f8_learn_L63 N v1 S = some o) (hC : Sum.elim (fun (s : (Int32 × Mem)) => J E X Q s.2 63 [(0, .ref (eA E 39)), (1, .int s.1)] []) (fun (x : (Mem)) => J E X Q x 80 [] []) o) : J E X Q S 63 [(0, .ref (eA E 39)), (1, .int v1)] [] := by
  unfold f8_learn_L63 at h
  refine j_iload_n hF rfl 1 rfl dX8_learn_63 ?_
  refine j_bipush (v := (9 : Int32)) hF (by decide) dX8_learn_64 ?_
  refine j_icmp_gt (tgt := 80) hF h (by decide) dX8_learn_66 (fun h => ?_) (fun h => ?_)
  · obtain rfl := ret1 h
    refine j_sub (lv' := []) hF [] rfl ?_
    exact hC
  · refine j_aload_n hF rfl 0 rfl dX8_learn_69 ?_
    refine j_iload_n hF rfl 1 rfl dX8_learn_70 ?_
    obtain ⟨r15, S16, hr15, h⟩ := bnd_some h
    refine j_callV_v (As := [.int v1]) (st := []) hF rfl mv_8_meetWorldsWith (by decide) (s_39 E _) rfl bw_3_93 rfl (by decide) (Nat.le_of_ble_eq_true rfl) dX8_learn_71 (c8_meetWorldsWith hr15) ?_
    refine j_iinc (v := (v1 + (1 : Int32))) (lv' := [(1, .int (v1 + (1 : Int32))), (0, .ref (eA E 39))]) (q := 1) hF rfl (congrArg (fun z => v1 + z) (by decide)) (by decide) rfl dX8_learn_74 ?_
    refine j_nmL h (fun x17 h => ?_)
    refine j_goto (tgt := 63) hF (by decide) dX8_learn_77 ?_
    obtain rfl := ret1 h
    refine j_sub (lv' := [(0, .ref (eA E 39)), (1, .int x17)]) hF [1, 0] rfl ?_
    exact hC
set_option maxHeartbeats 1000000 in
theorem t8_learn_b80 {E : En} {X : Cx} {Q : State → Prop} {N : Nat} {S : Mem} {o : (Unit × Mem)} (hF : Fx E X cX8_learn RX8 2 none 4) (h : f8_learn_b80 N S = some o) (hC : Q = RQ E X (none) o.2) : J E X Q S 80 [] [] := by
  unfold f8_learn_b80 at h
  obtain rfl := ret1 h
  exact j_vret hF hC dX8_learn_80
set_option maxHeartbeats 1000000 in
theorem t8_learn {E : En} {X : Cx} {Q : State → Prop} {N : Nat} {S : Mem} {o : (Unit × Mem)} (hF : Fx E X cX8_learn RX8 2 none 4) (h : f8_learn N S = some o) (hC : Q = RQ E X (none) o.2) : J E X Q S 0 [(0, .ref (eA E 39))] [] := by
  unfold f8_learn at h
  refine j_aload_n hF rfl 0 rfl dX8_learn_0 ?_
  refine gf8_7 hF (by decide) (s_39 E _) rfl bw_1_174 dX8_learn_1 ?_
  refine j_if_eq (tgt := 8) hF h (by decide) dX8_learn_4 (fun h => ?_) (fun h => ?_)
  · refine j_aload_n hF rfl 0 rfl dX8_learn_8 ?_
    refine j_iconst (v := (1 : Int32)) hF (by decide) dX8_learn_9 ?_
    refine pf8_7 hF (by decide) (by decide) (by decide) (s_39 E _) (s_39 E _) (Nat.le_of_ble_eq_true rfl) bw_1_174 dX8_learn_10 ?_
    refine j_nmM h (fun S1 h => ?_)
    refine j_aload_n hF rfl 0 rfl dX8_learn_13 ?_
    refine j_iconst (v := (0 : Int32)) hF (by decide) dX8_learn_14 ?_
    refine pf8_8 hF (by decide) (s_39 E _) (s_39 E _) (Nat.le_of_ble_eq_true rfl) bw_1_175 dX8_learn_15 ?_
    refine j_nmM h (fun S2 h => ?_)
    refine j_aload_n hF rfl 0 rfl dX8_learn_18 ?_
    refine j_bipush (v := (13 : Int32)) hF (by decide) dX8_learn_19 ?_
    refine pf8_9 hF (by decide) (s_39 E _) (s_39 E _) (Nat.le_of_ble_eq_true rfl) bw_1_176 dX8_learn_21 ?_
    refine j_nmM h (fun S3 h => ?_)
    refine j_aload_n hF rfl 0 rfl dX8_learn_24 ?_
    refine j_iconst (v := (0 : Int32)) hF (by decide) dX8_learn_25 ?_
    refine pf8_10 hF (by decide) (s_39 E _) (s_39 E _) (Nat.le_of_ble_eq_true rfl) bw_1_177 dX8_learn_26 ?_
    refine j_nmM h (fun S4 h => ?_)
    refine j_aload_n hF rfl 0 rfl dX8_learn_29 ?_
    refine gf8_3 hF (by decide) (s_39 E _) rfl bw_1_170 dX8_learn_30 ?_
    obtain ⟨r5, S6, hr5, h⟩ := bnd_some h
    refine j_callV_v (As := []) (st := []) hF rfl mv_5_wipe (by decide) (s_42 E _) rfl bw_3_72 rfl (by decide) (Nat.le_of_ble_eq_true rfl) dX8_learn_33 (c5_wipe (ra_42 E) hr5) ?_
    refine j_aload_n hF rfl 0 rfl dX8_learn_36 ?_
    refine gf8_4 hF (by decide) (s_39 E _) rfl bw_1_171 dX8_learn_37 ?_
    obtain ⟨r7, S8, hr7, h⟩ := bnd_some h
    refine j_callV_v (As := []) (st := []) hF rfl mv_5_wipe (by decide) (s_44 E _) rfl bw_3_72 rfl (by decide) (Nat.le_of_ble_eq_true rfl) dX8_learn_40 (c5_wipe (ra_44 E) hr7) ?_
    refine j_aload_n hF rfl 0 rfl dX8_learn_43 ?_
    refine gf8_5 hF (by decide) (s_39 E _) rfl bw_1_172 dX8_learn_44 ?_
    obtain ⟨r9, S10, hr9, h⟩ := bnd_some h
    refine j_callV_v (As := []) (st := []) hF rfl mv_5_wipe (by decide) (s_46 E _) rfl bw_3_72 rfl (by decide) (Nat.le_of_ble_eq_true rfl) dX8_learn_47 (c5_wipe (ra_46 E) hr9) ?_
    refine j_aload_n hF rfl 0 rfl dX8_learn_50 ?_
    refine gf8_6 hF (by decide) (s_39 E _) rfl bw_1_173 dX8_learn_51 ?_
    obtain ⟨r11, S12, hr11, h⟩ := bnd_some h
    refine j_callV_v (As := []) (st := []) hF rfl mv_5_wipe (by decide) (s_48 E _) rfl bw_3_72 rfl (by decide) (Nat.le_of_ble_eq_true rfl) dX8_learn_54 (c5_wipe (ra_48 E) hr11) ?_
    refine j_aload_n hF rfl 0 rfl dX8_learn_57 ?_
    obtain ⟨r13, S14, hr13, h⟩ := bnd_some h
    refine j_callV_v (As := []) (st := []) hF rfl mv_8_writeCodes (by decide) (s_39 E _) rfl bw_3_76 rfl (by decide) (Nat.le_of_ble_eq_true rfl) dX8_learn_58 (c8_writeCodes hr13) ?_
    refine j_iconst (v := (0 : Int32)) hF (by decide) dX8_learn_61 ?_
    refine j_istore_n (lv' := [(1, .int (0 : Int32)), (0, .ref (eA E 39))]) hF rfl (by decide) rfl dX8_learn_62 ?_
    obtain ⟨z18, hz18, h⟩ := bnp_some h
    refine j_sub (lv' := [(0, .ref (eA E 39)), (1, .int (0 : Int32))]) hF [1, 0] rfl ?_
    have hx : (fun (x : (Mem)) => J E X Q x 80 [] []) z18 := by
      exact t8_learn_b80 hF h hC
    exact lp_rule (Jh := fun (s : (Int32 × Mem)) => J E X Q s.2 63 [(0, .ref (eA E 39)), (1, .int s.1)] []) (C := fun (x : (Mem)) => J E X Q x 80 [] []) (fun s o h hC => t8_learn_L63 hF h hC) N ((0 : Int32), S14) z18 hz18 hx
  · obtain rfl := ret1 h
    exact j_vret hF hC dX8_learn_7
set_option maxHeartbeats 1000000 in
theorem c8_learn {E : En} {N : Nat} {S So : Mem} {ro : Unit} (h : f8_learn N S = some (ro, So)) : CT E yX8_learn cX8_learn 2 none 4 [.ref (eA E 39)] S (none) So :=
  CT_of (by decide) (Nat.le_of_ble_eq_true rfl) (fun X hF => t8_learn hF h rfl)
def f9_known (N : Nat) (S : Mem) : Option (Unit × Mem) :=
bnd (f8_learn N S) fun r1 S2 =>
some (((), S2))
set_option maxHeartbeats 1000000 in
theorem t9_known {E : En} {X : Cx} {Q : State → Prop} {N : Nat} {S : Mem} {o : (Unit × Mem)} (hF : Fx E X cX9_known RX9 1 (some (.object "SelfScale$Worlds")) 5) (h : f9_known N S = some o) (hC : Q = RQ E X (some (.ref (eA E 39))) o.2) : J E X Q S 0 [(0, .ref (eA E 0))] [] := by
  unfold f9_known at h
  refine j_aload_n hF rfl 0 rfl dX9_known_0 ?_
  refine gf9_7 hF (by decide) (s_0 E _) rfl bw_1_232 dX9_known_1 ?_
  obtain ⟨r1, S2, hr1, h⟩ := bnd_some h
  refine j_callV_v (As := []) (st := []) hF rfl mv_8_learn (by decide) (s_39 E _) rfl bw_3_68 rfl (by decide) (Nat.le_of_ble_eq_true rfl) dX9_known_4 (c8_learn hr1) ?_
  refine j_aload_n hF rfl 0 rfl dX9_known_7 ?_
  refine gf9_7 hF (by decide) (s_0 E _) rfl bw_1_232 dX9_known_8 ?_
  obtain rfl := ret1 h
  exact j_aret hF hC dX9_known_11
set_option maxHeartbeats 1000000 in
theorem c9_known {E : En} {N : Nat} {S So : Mem} {ro : Unit} (h : f9_known N S = some (ro, So)) : CT E yX9_known cX9_known 1 (some (.object "SelfScale$Worlds")) 5 [.ref (eA E 0)] S (some (.ref (eA E 39))) So :=
  CT_of (by decide) (Nat.le_of_ble_eq_true rfl) (fun X hF => t9_known hF h rfl)
def f8_leftWith (N : Nat) (a1 : Int32) (a2 : Int32) (S : Mem) : Option Int32 :=
bnp (f5_get N 44 40 ((a1 * (10 : Int32)) + a2) S) fun r1 =>
some (r1)
set_option maxHeartbeats 1000000 in
theorem t8_leftWith {E : En} {X : Cx} {Q : State → Prop} {N : Nat} {a1 : Int32} {a2 : Int32} {S : Mem} {o : Int32} (hF : Fx E X cX8_leftWith RX8 3 (some .int) 1) (h : f8_leftWith N a1 a2 S = some o) (hC : Q = RQ E X (some (.int o)) S) : J E X Q S 0 [(0, .ref (eA E 39)), (1, .int a1), (2, .int a2)] [] := by
  unfold f8_leftWith at h
  refine j_aload_n hF rfl 0 rfl dX8_leftWith_0 ?_
  refine gf8_4 hF (by decide) (s_39 E _) rfl bw_1_171 dX8_leftWith_1 ?_
  refine j_iload_n hF rfl 1 rfl dX8_leftWith_4 ?_
  refine j_bipush (v := (10 : Int32)) hF (by decide) dX8_leftWith_5 ?_
  refine j_imul hF dX8_leftWith_7 ?_
  refine j_iload_n hF rfl 2 rfl dX8_leftWith_8 ?_
  refine j_iadd hF dX8_leftWith_9 ?_
  obtain ⟨r1, hr1, h⟩ := bnp_some h
  refine j_callV_i (As := [.int ((a1 * (10 : Int32)) + a2)]) (st := []) hF rfl mv_5_get (by decide) (s_44 E _) rfl bw_3_101 rfl (by decide) (Nat.le_of_ble_eq_true rfl) dX8_leftWith_10 (c5_get (ra_44 E) hr1) ?_
  obtain rfl := ret1 h
  exact j_iret hF hC dX8_leftWith_13
set_option maxHeartbeats 1000000 in
theorem c8_leftWith {E : En} {N : Nat} {a1 : Int32} {a2 : Int32} {S : Mem} {ro : Int32} (h : f8_leftWith N a1 a2 S = some ro) : CT E yX8_leftWith cX8_leftWith 3 (some .int) 1 [.ref (eA E 39), .int a1, .int a2] S (some (.int ro)) S :=
  CT_of (by decide) (Nat.le_of_ble_eq_true rfl) (fun X hF => t8_leftWith hF h rfl)
def f8_left (N : Nat) (S : Mem) : Option Int32 :=
some (((S 39).1 8))
set_option maxHeartbeats 1000000 in
theorem t8_left {E : En} {X : Cx} {Q : State → Prop} {N : Nat} {S : Mem} {o : Int32} (hF : Fx E X cX8_left RX8 1 (some .int) 0) (h : f8_left N S = some o) (hC : Q = RQ E X (some (.int o)) S) : J E X Q S 0 [(0, .ref (eA E 39))] [] := by
  unfold f8_left at h
  refine j_aload_n hF rfl 0 rfl dX8_left_0 ?_
  refine gf8_8 hF (by decide) (s_39 E _) rfl bw_1_175 dX8_left_1 ?_
  obtain rfl := ret1 h
  exact j_iret hF hC dX8_left_4
set_option maxHeartbeats 1000000 in
theorem c8_left {E : En} {N : Nat} {S : Mem} {ro : Int32} (h : f8_left N S = some ro) : CT E yX8_left cX8_left 1 (some .int) 0 [.ref (eA E 39)] S (some (.int ro)) S :=
  CT_of (by decide) (Nat.le_of_ble_eq_true rfl) (fun X hF => t8_left hF h rfl)
def f9_could_b13 (N : Nat) (v1 : Int32) (v2 : Int32) (S : Mem) : Option (Int32 × Mem) :=
bnp (f9_isBetween N v2 (0 : Int32) (9 : Int32) S) fun r1 =>
if r1 = 0 then
some (((-1 : Int32), S))
else
if v1 = (-1 : Int32) then
bnd (f9_known N S) fun r5 S6 =>
bnp (f8_left N S6) fun r7 =>
some ((r7, S6))
else
bnd (f9_known N S) fun r2 S3 =>
bnp (f8_leftWith N v1 v2 S3) fun r4 =>
some ((r4, S3))
def f9_could (N : Nat) (a1 : Int32) (a2 : Int32) (S : Mem) : Option (Int32 × Mem) :=
if a1 = (-1 : Int32) then
f9_could_b13 N a1 a2 S
else
bnp (f9_isItem N a1 S) fun r8 =>
if r8 = 0 then
some (((-1 : Int32), S))
else
f9_could_b13 N a1 a2 S
set_option maxHeartbeats 1000000 in
theorem t9_could_b13 {E : En} {X : Cx} {Q : State → Prop} {N : Nat} {v1 : Int32} {v2 : Int32} {S : Mem} {o : (Int32 × Mem)} (hF : Fx E X cX9_could RX9 3 (some .int) 6) (h : f9_could_b13 N v1 v2 S = some o) (hC : Q = RQ E X (some (.int o.1)) o.2) : J E X Q S 13 [(0, .ref (eA E 0)), (1, .int v1), (2, .int v2)] [] := by
  unfold f9_could_b13 at h
  refine j_iload_n hF rfl 2 rfl dX9_could_13 ?_
  refine j_iconst (v := (0 : Int32)) hF (by decide) dX9_could_14 ?_
  refine j_bipush (v := (9 : Int32)) hF (by decide) dX9_could_15 ?_
  obtain ⟨r1, hr1, h⟩ := bnp_some h
  refine j_callS_i (As := [.int v2, .int (0 : Int32), .int (9 : Int32)]) (st := []) hF rfl mv_9_isBetween bw_2_219 rfl (by decide) (Nat.le_of_ble_eq_true rfl) dX9_could_17 (c9_isBetween hr1) ?_
  refine j_if_ne (tgt := 25) hF h (by decide) dX9_could_20 (fun h => ?_) (fun h => ?_)
  · refine j_iload_n hF rfl 1 rfl dX9_could_25 ?_
    refine j_iconst (v := (-1 : Int32)) hF (by decide) dX9_could_26 ?_
    refine j_icmp_ne (tgt := 40) hF h (by decide) dX9_could_27 (fun h => ?_) (fun h => ?_)
    · refine j_aload_n hF rfl 0 rfl dX9_could_40 ?_
      obtain ⟨r2, S3, hr2, h⟩ := bnd_some h
      refine j_callV_r (As := []) (st := []) hF rfl mv_9_known (by decide) (s_0 E _) rfl bw_3_64 rfl (by decide) (Nat.le_of_ble_eq_true rfl) dX9_could_41 (c9_known hr2) ?_
      refine j_iload_n hF rfl 1 rfl dX9_could_44 ?_
      refine j_iload_n hF rfl 2 rfl dX9_could_45 ?_
      obtain ⟨r4, hr4, h⟩ := bnp_some h
      refine j_callV_i (As := [.int v1, .int v2]) (st := []) hF rfl mv_8_leftWith (by decide) (s_39 E _) rfl bw_3_136 rfl (by decide) (Nat.le_of_ble_eq_true rfl) dX9_could_46 (c8_leftWith hr4) ?_
      obtain rfl := ret1 h
      exact j_iret hF hC dX9_could_49
    · refine j_aload_n hF rfl 0 rfl dX9_could_30 ?_
      obtain ⟨r5, S6, hr5, h⟩ := bnd_some h
      refine j_callV_r (As := []) (st := []) hF rfl mv_9_known (by decide) (s_0 E _) rfl bw_3_64 rfl (by decide) (Nat.le_of_ble_eq_true rfl) dX9_could_31 (c9_known hr5) ?_
      obtain ⟨r7, hr7, h⟩ := bnp_some h
      refine j_callV_i (As := []) (st := []) hF rfl mv_8_left (by decide) (s_39 E _) rfl bw_3_132 rfl (by decide) (Nat.le_of_ble_eq_true rfl) dX9_could_34 (c8_left hr7) ?_
      refine j_goto (tgt := 49) hF (by decide) dX9_could_37 ?_
      obtain rfl := ret1 h
      exact j_iret hF hC dX9_could_49
  · refine j_iconst (v := (-1 : Int32)) hF (by decide) dX9_could_23 ?_
    obtain rfl := ret1 h
    exact j_iret hF hC dX9_could_24
set_option maxHeartbeats 1000000 in
theorem t9_could {E : En} {X : Cx} {Q : State → Prop} {N : Nat} {a1 : Int32} {a2 : Int32} {S : Mem} {o : (Int32 × Mem)} (hF : Fx E X cX9_could RX9 3 (some .int) 6) (h : f9_could N a1 a2 S = some o) (hC : Q = RQ E X (some (.int o.1)) o.2) : J E X Q S 0 [(0, .ref (eA E 0)), (1, .int a1), (2, .int a2)] [] := by
  unfold f9_could at h
  refine j_iload_n hF rfl 1 rfl dX9_could_0 ?_
  refine j_iconst (v := (-1 : Int32)) hF (by decide) dX9_could_1 ?_
  refine j_icmp_eq (tgt := 13) hF h (by decide) dX9_could_2 (fun h => ?_) (fun h => ?_)
  · exact t9_could_b13 hF h hC
  · refine j_aload_n hF rfl 0 rfl dX9_could_5 ?_
    refine j_iload_n hF rfl 1 rfl dX9_could_6 ?_
    obtain ⟨r8, hr8, h⟩ := bnp_some h
    refine j_callV_i (As := [.int a1]) (st := []) hF rfl mv_9_isItem (by decide) (s_0 E _) rfl bw_2_214 rfl (by decide) (Nat.le_of_ble_eq_true rfl) dX9_could_7 (c9_isItem hr8) ?_
    refine j_if_eq (tgt := 23) hF h (by decide) dX9_could_10 (fun h => ?_) (fun h => ?_)
    · refine j_iconst (v := (-1 : Int32)) hF (by decide) dX9_could_23 ?_
      obtain rfl := ret1 h
      exact j_iret hF hC dX9_could_24
    · exact t9_could_b13 hF h hC
set_option maxHeartbeats 1000000 in
theorem c9_could {E : En} {N : Nat} {a1 : Int32} {a2 : Int32} {S So : Mem} {ro : Int32} (h : f9_could N a1 a2 S = some (ro, So)) : CT E yX9_could cX9_could 3 (some .int) 6 [.ref (eA E 0), .int a1, .int a2] S (some (.int ro)) So :=
  CT_of (by decide) (Nat.le_of_ble_eq_true rfl) (fun X hF => t9_could hF h rfl)
