def f7_length (N : Nat) (S : Mem) : Option Int32 :=
some (((S 1).1 1))
set_option maxHeartbeats 1000000 in
theorem t7_length {E : En} {X : Cx} {Q : State → Prop} {N : Nat} {S : Mem} {o : Int32} (hF : Fx E X cX7_length RX7 1 (some .int) 0) (h : f7_length N S = some o) (hC : Q = RQ E X (some (.int o)) S) : J E X Q S 0 [(0, .ref (eA E 1))] [] := by
  unfold f7_length at h
  refine j_aload_n hF rfl 0 rfl dX7_length_0 ?_
  refine gf7_1 hF (by decide) (s_1 E _) rfl bw_1_44 dX7_length_1 ?_
  obtain rfl := ret1 h
  exact j_iret hF hC dX7_length_4
set_option maxHeartbeats 1000000 in
theorem c7_length {E : En} {N : Nat} {S : Mem} {ro : Int32} (h : f7_length N S = some ro) : CT E yX7_length cX7_length 1 (some .int) 0 [.ref (eA E 1)] S (some (.int ro)) S :=
  CT_of (by decide) (Nat.le_of_ble_eq_true rfl) (fun X hF => t7_length hF h rfl)
def f5_put (N : Nat) (k n : Nat) (a1 : Int32) (a2 : Int32) (S : Mem) : Option (Unit × Mem) :=
if a1 < 0 then
some (((), S))
else
if (nI n) ≤ a1 then
some (((), S))
else
if a1 < 0 ∨ n ≤ a1.toNatClampNeg then none else
lt_ (wr S (k + 1) a1.toNatClampNeg a2) fun S1 =>
some (((), S1))
set_option maxHeartbeats 1000000 in
theorem t5_put {E : En} {X : Cx} {Q : State → Prop} {N : Nat} {k n : Nat} {a1 : Int32} {a2 : Int32} {S : Mem} {o : (Unit × Mem)} (hr : RowAt E k n) (hF : Fx E X cX5_put RX5 3 none 0) (h : f5_put N k n a1 a2 S = some o) (hC : Q = RQ E X (none) o.2) : J E X Q S 0 [(0, .ref (eA E k)), (1, .int a1), (2, .int a2)] [] := by
  unfold f5_put at h
  refine j_iload_n hF rfl 1 rfl dX5_put_0 ?_
  refine j_if_lt (tgt := 20) hF h (by decide) dX5_put_1 (fun h => ?_) (fun h => ?_)
  · obtain rfl := ret1 h
    exact j_vret hF hC dX5_put_20
  · refine j_iload_n hF rfl 1 rfl dX5_put_4 ?_
    refine j_aload_n hF rfl 0 rfl dX5_put_5 ?_
    refine gf5_0 hF (rk0 hr) (hr.2.1 _) rfl bw_1_38 dX5_put_6 ?_
    refine j_alen (t0 := 0) hF (rk1 hr) (hr.2.2 _) rfl rfl dX5_put_9 ?_
    refine j_icmp_ge (tgt := 20) hF h (by decide) dX5_put_10 (fun h => ?_) (fun h => ?_)
    · obtain rfl := ret1 h
      exact j_vret hF hC dX5_put_20
    · refine j_aload_n hF rfl 0 rfl dX5_put_13 ?_
      refine gf5_0 hF (rk0 hr) (hr.2.1 _) rfl bw_1_38 dX5_put_14 ?_
      refine j_iload_n hF rfl 1 rfl dX5_put_17 ?_
      refine j_iload_n hF rfl 2 rfl dX5_put_18 ?_
      refine j_iast hF (rk1 hr) hr.2.2 h dX5_put_19 (fun h => ?_)
      refine j_nmM h (fun S1 h => ?_)
      obtain rfl := ret1 h
      exact j_vret hF hC dX5_put_20
set_option maxHeartbeats 1000000 in
theorem c5_put {E : En} {N : Nat} {k n : Nat} {a1 : Int32} {a2 : Int32} {S So : Mem} {ro : Unit} (hr : RowAt E k n) (h : f5_put N k n a1 a2 S = some (ro, So)) : CT E yX5_put cX5_put 3 none 0 [.ref (eA E k), .int a1, .int a2] S (none) So :=
  CT_of (by decide) (Nat.le_of_ble_eq_true rfl) (fun X hF => t5_put hr hF h rfl)
def f7_append (N : Nat) (a1 : Int32) (S : Mem) : Option (Unit × Mem) :=
if (200 : Int32) ≤ ((S 1).1 1) then
some (((), S))
else
bnd (f5_put N 2 200 ((S 1).1 1) a1 S) fun r1 S2 =>
lt_ (wr S2 1 1 (((S2 1).1 1) + (1 : Int32))) fun S3 =>
some (((), S3))
set_option maxHeartbeats 1000000 in
theorem t7_append {E : En} {X : Cx} {Q : State → Prop} {N : Nat} {a1 : Int32} {S : Mem} {o : (Unit × Mem)} (hF : Fx E X cX7_append RX7 2 none 1) (h : f7_append N a1 S = some o) (hC : Q = RQ E X (none) o.2) : J E X Q S 0 [(0, .ref (eA E 1)), (1, .int a1)] [] := by
  unfold f7_append at h
  refine j_aload_n hF rfl 0 rfl dX7_append_0 ?_
  refine gf7_1 hF (by decide) (s_1 E _) rfl bw_1_44 dX7_append_1 ?_
  refine j_sipush (v := (200 : Int32)) hF (by decide) dX7_append_4 ?_
  refine j_icmp_ge (tgt := 32) hF h (by decide) dX7_append_7 (fun h => ?_) (fun h => ?_)
  · obtain rfl := ret1 h
    exact j_vret hF hC dX7_append_32
  · refine j_aload_n hF rfl 0 rfl dX7_append_10 ?_
    refine gf7_0 hF (by decide) (s_1 E _) rfl bw_1_43 dX7_append_11 ?_
    refine j_aload_n hF rfl 0 rfl dX7_append_14 ?_
    refine gf7_1 hF (by decide) (s_1 E _) rfl bw_1_44 dX7_append_15 ?_
    refine j_iload_n hF rfl 1 rfl dX7_append_18 ?_
    obtain ⟨r1, S2, hr1, h⟩ := bnd_some h
    refine j_callV_v (As := [.int ((S 1).1 1), .int a1]) (st := []) hF rfl mv_5_put (by decide) (s_2 E _) rfl bw_2_25 rfl (by decide) (Nat.le_of_ble_eq_true rfl) dX7_append_19 (c5_put (ra_2 E) hr1) ?_
    refine j_aload_n hF rfl 0 rfl dX7_append_22 ?_
    refine j_dup hF rfl dX7_append_23 ?_
    refine gf7_1 hF (by decide) (s_1 E _) rfl bw_1_44 dX7_append_24 ?_
    refine j_iconst (v := (1 : Int32)) hF (by decide) dX7_append_27 ?_
    refine j_iadd hF dX7_append_28 ?_
    refine pf7_1 hF (by decide) (s_1 E _) (s_1 E _) (Nat.le_of_ble_eq_true rfl) bw_1_44 dX7_append_29 ?_
    refine j_nmM h (fun S3 h => ?_)
    obtain rfl := ret1 h
    exact j_vret hF hC dX7_append_32
set_option maxHeartbeats 1000000 in
theorem c7_append {E : En} {N : Nat} {a1 : Int32} {S So : Mem} {ro : Unit} (h : f7_append N a1 S = some (ro, So)) : CT E yX7_append cX7_append 2 none 1 [.ref (eA E 1), .int a1] S (none) So :=
  CT_of (by decide) (Nat.le_of_ble_eq_true rfl) (fun X hF => t7_append hF h rfl)
def f9_type_L36 (N : Nat) (v1 : Int64) (v4 : Int32) (S : Mem) : Option ((Int32 × Mem) ⊕ (Mem)) :=
if v4 < 0 then
some (.inr (S))
else
bnd (f7_append N ((v1.toUInt64 >>> (((8 : Int32) * v4).toInt64.toUInt64 &&& Int64.toUInt64 63)).toInt64.toInt32 &&& (255 : Int32)) S) fun r3 S4 =>
lt_ (v4 + (-1 : Int32)) fun x5 =>
some (.inl (x5, S4))
def f9_type_b66 (N : Nat) (S : Mem) : Option (Int32 × Mem) :=
bnp (f7_length N S) fun r7 =>
some ((r7, S))
def f9_type (N : Nat) (a1 : Int64) (a3 : Int32) (S : Mem) : Option (Int32 × Mem) :=
if a3 < (1 : Int32) then
some (((-1 : Int32), S))
else
if a3 ≤ (8 : Int32) then
bnp (f7_length N S) fun r1 =>
if (r1 + a3) ≤ (200 : Int32) then
lt_ (a3 - (1 : Int32)) fun x2 =>
bnp (lp N (fun s => f9_type_L36 N a1 s.1 s.2) (x2, S)) fun z6 =>
f9_type_b66 N z6
else
some (((-3 : Int32), S))
else
some (((-1 : Int32), S))
set_option maxHeartbeats 1000000 in
theorem t9_type_L36 {E : En} {X : Cx} {Q : State → Prop} {N : Nat} {v1 : Int64} {v4 : Int32} {S : Mem} {o : ((Int32 × Mem) ⊕ (Mem))} (hF : Fx E X cX9_type RX9 5 (some .int) 2) (h : f9_type_L36 N v1 v4 S = some o) (hC : Sum.elim (fun (s : (Int32 × Mem)) => J E X Q s.2 36 [(0, .ref (eA E 0)), (1, .long v1), (4, .int s.1)] []) (fun (x : (Mem)) => J E X Q x 66 [(0, .ref (eA E 0))] []) o) : J E X Q S 36 [(0, .ref (eA E 0)), (1, .long v1), (4, .int v4)] [] := by
  unfold f9_type_L36 at h
  refine j_iload hF 2 rfl dX9_type_36 ?_
  refine j_if_lt (tgt := 66) hF h (by decide) dX9_type_38 (fun h => ?_) (fun h => ?_)
  · obtain rfl := ret1 h
    refine j_sub (lv' := [(0, .ref (eA E 0))]) hF [0] rfl ?_
    exact hC
  · refine j_aload_n hF rfl 0 rfl dX9_type_41 ?_
    refine gf9_0 hF (by decide) (s_0 E _) rfl bw_1_225 dX9_type_42 ?_
    refine j_lload_n hF rfl 1 rfl dX9_type_45 ?_
    refine j_bipush (v := (8 : Int32)) hF (by decide) dX9_type_46 ?_
    refine j_iload hF 2 rfl dX9_type_48 ?_
    refine j_imul hF dX9_type_50 ?_
    refine j_lushr hF dX9_type_51 ?_
    refine j_l2i hF dX9_type_52 ?_
    refine j_sipush (v := (255 : Int32)) hF (by decide) dX9_type_53 ?_
    refine j_iand hF dX9_type_56 ?_
    obtain ⟨r3, S4, hr3, h⟩ := bnd_some h
    refine j_callV_v (As := [.int ((v1.toUInt64 >>> (((8 : Int32) * v4).toInt64.toUInt64 &&& Int64.toUInt64 63)).toInt64.toInt32 &&& (255 : Int32))]) (st := []) hF rfl mv_7_append (by decide) (s_1 E _) rfl bw_2_21 rfl (by decide) (Nat.le_of_ble_eq_true rfl) dX9_type_57 (c7_append hr3) ?_
    refine j_iinc (v := (v4 + (-1 : Int32))) (lv' := [(4, .int (v4 + (-1 : Int32))), (0, .ref (eA E 0)), (1, .long v1)]) (q := 2) hF rfl (congrArg (fun z => v4 + z) (by decide)) (by decide) rfl dX9_type_60 ?_
    refine j_nmL h (fun x5 h => ?_)
    refine j_goto (tgt := 36) hF (by decide) dX9_type_63 ?_
    obtain rfl := ret1 h
    refine j_sub (lv' := [(0, .ref (eA E 0)), (1, .long v1), (4, .int x5)]) hF [1, 2, 0] rfl ?_
    exact hC
set_option maxHeartbeats 1000000 in
theorem t9_type_b66 {E : En} {X : Cx} {Q : State → Prop} {N : Nat} {S : Mem} {o : (Int32 × Mem)} (hF : Fx E X cX9_type RX9 5 (some .int) 2) (h : f9_type_b66 N S = some o) (hC : Q = RQ E X (some (.int o.1)) o.2) : J E X Q S 66 [(0, .ref (eA E 0))] [] := by
  unfold f9_type_b66 at h
  refine j_aload_n hF rfl 0 rfl dX9_type_66 ?_
  refine gf9_0 hF (by decide) (s_0 E _) rfl bw_1_225 dX9_type_67 ?_
  obtain ⟨r7, hr7, h⟩ := bnp_some h
  refine j_callV_i (As := []) (st := []) hF rfl mv_7_length (by decide) (s_1 E _) rfl bw_2_17 rfl (by decide) (Nat.le_of_ble_eq_true rfl) dX9_type_70 (c7_length hr7) ?_
  obtain rfl := ret1 h
  exact j_iret hF hC dX9_type_73
set_option maxHeartbeats 1000000 in
theorem t9_type {E : En} {X : Cx} {Q : State → Prop} {N : Nat} {a1 : Int64} {a3 : Int32} {S : Mem} {o : (Int32 × Mem)} (hF : Fx E X cX9_type RX9 5 (some .int) 2) (h : f9_type N a1 a3 S = some o) (hC : Q = RQ E X (some (.int o.1)) o.2) : J E X Q S 0 [(0, .ref (eA E 0)), (1, .long a1), (3, .int a3)] [] := by
  unfold f9_type at h
  refine j_iload_n hF rfl 2 rfl dX9_type_0 ?_
  refine j_iconst (v := (1 : Int32)) hF (by decide) dX9_type_1 ?_
  refine j_icmp_lt (tgt := 11) hF h (by decide) dX9_type_2 (fun h => ?_) (fun h => ?_)
  · refine j_iconst (v := (-1 : Int32)) hF (by decide) dX9_type_11 ?_
    obtain rfl := ret1 h
    exact j_iret hF hC dX9_type_12
  · refine j_iload_n hF rfl 2 rfl dX9_type_5 ?_
    refine j_bipush (v := (8 : Int32)) hF (by decide) dX9_type_6 ?_
    refine j_icmp_le (tgt := 13) hF h (by decide) dX9_type_8 (fun h => ?_) (fun h => ?_)
    · refine j_aload_n hF rfl 0 rfl dX9_type_13 ?_
      refine gf9_0 hF (by decide) (s_0 E _) rfl bw_1_225 dX9_type_14 ?_
      obtain ⟨r1, hr1, h⟩ := bnp_some h
      refine j_callV_i (As := []) (st := []) hF rfl mv_7_length (by decide) (s_1 E _) rfl bw_2_17 rfl (by decide) (Nat.le_of_ble_eq_true rfl) dX9_type_17 (c7_length hr1) ?_
      refine j_iload_n hF rfl 2 rfl dX9_type_20 ?_
      refine j_iadd hF dX9_type_21 ?_
      refine j_sipush (v := (200 : Int32)) hF (by decide) dX9_type_22 ?_
      refine j_icmp_le (tgt := 31) hF h (by decide) dX9_type_25 (fun h => ?_) (fun h => ?_)
      · refine j_iload_n hF rfl 2 rfl dX9_type_31 ?_
        refine j_iconst (v := (1 : Int32)) hF (by decide) dX9_type_32 ?_
        refine j_isub hF dX9_type_33 ?_
        refine j_istore (lv' := [(4, .int (a3 - (1 : Int32))), (0, .ref (eA E 0)), (1, .long a1), (3, .int a3)]) hF (by decide) rfl dX9_type_34 ?_
        refine j_nmL h (fun x2 h => ?_)
        obtain ⟨z6, hz6, h⟩ := bnp_some h
        refine j_sub (lv' := [(0, .ref (eA E 0)), (1, .long a1), (4, .int x2)]) hF [1, 2, 0] rfl ?_
        have hx : (fun (x : (Mem)) => J E X Q x 66 [(0, .ref (eA E 0))] []) z6 := by
          exact t9_type_b66 hF h hC
        exact lp_rule (Jh := fun (s : (Int32 × Mem)) => J E X Q s.2 36 [(0, .ref (eA E 0)), (1, .long a1), (4, .int s.1)] []) (C := fun (x : (Mem)) => J E X Q x 66 [(0, .ref (eA E 0))] []) (fun s o h hC => t9_type_L36 hF h hC) N (x2, S) z6 hz6 hx
      · refine j_bipush (v := (-3 : Int32)) hF (by decide) dX9_type_28 ?_
        obtain rfl := ret1 h
        exact j_iret hF hC dX9_type_30
    · refine j_iconst (v := (-1 : Int32)) hF (by decide) dX9_type_11 ?_
      obtain rfl := ret1 h
      exact j_iret hF hC dX9_type_12
set_option maxHeartbeats 1000000 in
theorem c9_type {E : En} {N : Nat} {a1 : Int64} {a3 : Int32} {S So : Mem} {ro : Int32} (h : f9_type N a1 a3 S = some (ro, So)) : CT E yX9_type cX9_type 5 (some .int) 2 [.ref (eA E 0), .long a1, .int a3] S (some (.int ro)) So :=
  CT_of (by decide) (Nat.le_of_ble_eq_true rfl) (fun X hF => t9_type hF h rfl)
def f7_wipe (N : Nat) (S : Mem) : Option (Unit × Mem) :=
lt_ (wr S 1 1 (0 : Int32)) fun S1 =>
some (((), S1))
set_option maxHeartbeats 1000000 in
theorem t7_wipe {E : En} {X : Cx} {Q : State → Prop} {N : Nat} {S : Mem} {o : (Unit × Mem)} (hF : Fx E X cX7_wipe RX7 1 none 0) (h : f7_wipe N S = some o) (hC : Q = RQ E X (none) o.2) : J E X Q S 0 [(0, .ref (eA E 1))] [] := by
  unfold f7_wipe at h
  refine j_aload_n hF rfl 0 rfl dX7_wipe_0 ?_
  refine j_iconst (v := (0 : Int32)) hF (by decide) dX7_wipe_1 ?_
  refine pf7_1 hF (by decide) (s_1 E _) (s_1 E _) (Nat.le_of_ble_eq_true rfl) bw_1_44 dX7_wipe_2 ?_
  refine j_nmM h (fun S1 h => ?_)
  obtain rfl := ret1 h
  exact j_vret hF hC dX7_wipe_5
set_option maxHeartbeats 1000000 in
theorem c7_wipe {E : En} {N : Nat} {S So : Mem} {ro : Unit} (h : f7_wipe N S = some (ro, So)) : CT E yX7_wipe cX7_wipe 1 none 0 [.ref (eA E 1)] S (none) So :=
  CT_of (by decide) (Nat.le_of_ble_eq_true rfl) (fun X hF => t7_wipe hF h rfl)
def f9_clear (N : Nat) (S : Mem) : Option (Int32 × Mem) :=
bnp (f7_length N S) fun r1 =>
bnd (f7_wipe N S) fun r2 S3 =>
some ((r1, S3))
set_option maxHeartbeats 1000000 in
theorem t9_clear {E : En} {X : Cx} {Q : State → Prop} {N : Nat} {S : Mem} {o : (Int32 × Mem)} (hF : Fx E X cX9_clear RX9 2 (some .int) 1) (h : f9_clear N S = some o) (hC : Q = RQ E X (some (.int o.1)) o.2) : J E X Q S 0 [(0, .ref (eA E 0))] [] := by
  unfold f9_clear at h
  refine j_aload_n hF rfl 0 rfl dX9_clear_0 ?_
  refine gf9_0 hF (by decide) (s_0 E _) rfl bw_1_225 dX9_clear_1 ?_
  obtain ⟨r1, hr1, h⟩ := bnp_some h
  refine j_callV_i (As := []) (st := []) hF rfl mv_7_length (by decide) (s_1 E _) rfl bw_2_17 rfl (by decide) (Nat.le_of_ble_eq_true rfl) dX9_clear_4 (c7_length hr1) ?_
  refine j_istore_n (lv' := [(1, .int r1), (0, .ref (eA E 0))]) hF rfl (by decide) rfl dX9_clear_7 ?_
  refine j_aload_n hF rfl 1 rfl dX9_clear_8 ?_
  refine gf9_0 hF (by decide) (s_0 E _) rfl bw_1_225 dX9_clear_9 ?_
  obtain ⟨r2, S3, hr2, h⟩ := bnd_some h
  refine j_callV_v (As := []) (st := []) hF rfl mv_7_wipe (by decide) (s_1 E _) rfl bw_2_33 rfl (by decide) (Nat.le_of_ble_eq_true rfl) dX9_clear_12 (c7_wipe hr2) ?_
  refine j_iload_n hF rfl 0 rfl dX9_clear_15 ?_
  obtain rfl := ret1 h
  exact j_iret hF hC dX9_clear_16
set_option maxHeartbeats 1000000 in
theorem c9_clear {E : En} {N : Nat} {S So : Mem} {ro : Int32} (h : f9_clear N S = some (ro, So)) : CT E yX9_clear cX9_clear 2 (some .int) 1 [.ref (eA E 0)] S (some (.int ro)) So :=
  CT_of (by decide) (Nat.le_of_ble_eq_true rfl) (fun X hF => t9_clear hF h rfl)
def f6_reset_5 (N : Nat) (S : Mem) : Option (Unit × Mem) :=
lt_ (wr S 5 2 (0 : Int32)) fun S1 =>
lt_ (wr S1 5 3 (0 : Int32)) fun S2 =>
lt_ (wr S2 5 4 (10 : Int32)) fun S3 =>
some (((), S3))
set_option maxHeartbeats 1000000 in
theorem t6_reset_5 {E : En} {X : Cx} {Q : State → Prop} {N : Nat} {S : Mem} {o : (Unit × Mem)} (hF : Fx E X cX6_reset RX6 1 none 0) (h : f6_reset_5 N S = some o) (hC : Q = RQ E X (none) o.2) : J E X Q S 0 [(0, .ref (eA E 5))] [] := by
  unfold f6_reset_5 at h
  refine j_aload_n hF rfl 0 rfl dX6_reset_0 ?_
  refine j_iconst (v := (0 : Int32)) hF (by decide) dX6_reset_1 ?_
  refine pf6_2 hF (by decide) (s_5 E _) (s_5 E _) (Nat.le_of_ble_eq_true rfl) bw_1_66 dX6_reset_2 ?_
  refine j_nmM h (fun S1 h => ?_)
  refine j_aload_n hF rfl 0 rfl dX6_reset_5 ?_
  refine j_iconst (v := (0 : Int32)) hF (by decide) dX6_reset_6 ?_
  refine pf6_3 hF (by decide) (s_5 E _) (s_5 E _) (Nat.le_of_ble_eq_true rfl) bw_1_67 dX6_reset_7 ?_
  refine j_nmM h (fun S2 h => ?_)
  refine j_aload_n hF rfl 0 rfl dX6_reset_10 ?_
  refine j_bipush (v := (10 : Int32)) hF (by decide) dX6_reset_11 ?_
  refine pf6_4 hF (by decide) (s_5 E _) (s_5 E _) (Nat.le_of_ble_eq_true rfl) bw_1_68 dX6_reset_13 ?_
  refine j_nmM h (fun S3 h => ?_)
  obtain rfl := ret1 h
  exact j_vret hF hC dX6_reset_16
set_option maxHeartbeats 1000000 in
theorem c6_reset_5 {E : En} {N : Nat} {S So : Mem} {ro : Unit} (h : f6_reset_5 N S = some (ro, So)) : CT E yX6_reset cX6_reset 1 none 0 [.ref (eA E 5)] S (none) So :=
  CT_of (by decide) (Nat.le_of_ble_eq_true rfl) (fun X hF => t6_reset_5 hF h rfl)
def f4_begin (N : Nat) (S : Mem) : Option (Unit × Mem) :=
bnd (f6_reset_5 N S) fun r1 S2 =>
lt_ (wr S2 4 2 (0 : Int32)) fun S3 =>
lt_ (wr S3 4 3 (0 : Int32)) fun S4 =>
lt_ (wr S4 4 4 (0 : Int32)) fun S5 =>
lt_ (wr S5 4 6 (0 : Int32)) fun S6 =>
some (((), S6))
set_option maxHeartbeats 1000000 in
theorem t4_begin {E : En} {X : Cx} {Q : State → Prop} {N : Nat} {S : Mem} {o : (Unit × Mem)} (hF : Fx E X cX4_begin RX4 1 none 1) (h : f4_begin N S = some o) (hC : Q = RQ E X (none) o.2) : J E X Q S 0 [(0, .ref (eA E 4))] [] := by
  unfold f4_begin at h
  refine j_aload_n hF rfl 0 rfl dX4_begin_0 ?_
  refine gf4_1 hF (by decide) (s_4 E _) rfl bw_1_81 dX4_begin_1 ?_
  obtain ⟨r1, S2, hr1, h⟩ := bnd_some h
  refine j_callV_v (As := []) (st := []) hF rfl mv_6_reset (by decide) (s_5 E _) rfl bw_2_49 rfl (by decide) (Nat.le_of_ble_eq_true rfl) dX4_begin_4 (c6_reset_5 hr1) ?_
  refine j_aload_n hF rfl 0 rfl dX4_begin_7 ?_
  refine j_iconst (v := (0 : Int32)) hF (by decide) dX4_begin_8 ?_
  refine pf4_2 hF (by decide) (s_4 E _) (s_4 E _) (Nat.le_of_ble_eq_true rfl) bw_1_82 dX4_begin_9 ?_
  refine j_nmM h (fun S3 h => ?_)
  refine j_aload_n hF rfl 0 rfl dX4_begin_12 ?_
  refine j_iconst (v := (0 : Int32)) hF (by decide) dX4_begin_13 ?_
  refine pf4_3 hF (by decide) (by decide) (by decide) (s_4 E _) (s_4 E _) (Nat.le_of_ble_eq_true rfl) bw_1_83 dX4_begin_14 ?_
  refine j_nmM h (fun S4 h => ?_)
  refine j_aload_n hF rfl 0 rfl dX4_begin_17 ?_
  refine j_iconst (v := (0 : Int32)) hF (by decide) dX4_begin_18 ?_
  refine pf4_4 hF (by decide) (by decide) (by decide) (s_4 E _) (s_4 E _) (Nat.le_of_ble_eq_true rfl) bw_1_84 dX4_begin_19 ?_
  refine j_nmM h (fun S5 h => ?_)
  refine j_aload_n hF rfl 0 rfl dX4_begin_22 ?_
  refine j_iconst (v := (0 : Int32)) hF (by decide) dX4_begin_23 ?_
  refine pf4_6 hF (by decide) (s_4 E _) (s_4 E _) (Nat.le_of_ble_eq_true rfl) bw_1_86 dX4_begin_24 ?_
  refine j_nmM h (fun S6 h => ?_)
  obtain rfl := ret1 h
  exact j_vret hF hC dX4_begin_27
set_option maxHeartbeats 1000000 in
theorem c4_begin {E : En} {N : Nat} {S So : Mem} {ro : Unit} (h : f4_begin N S = some (ro, So)) : CT E yX4_begin cX4_begin 1 none 1 [.ref (eA E 4)] S (none) So :=
  CT_of (by decide) (Nat.le_of_ble_eq_true rfl) (fun X hF => t4_begin hF h rfl)
def f5_get (N : Nat) (k n : Nat) (a1 : Int32) (S : Mem) : Option Int32 :=
if a1 < 0 then
some ((0 : Int32))
else
if (nI n) ≤ a1 then
some ((0 : Int32))
else
if a1 < 0 ∨ n ≤ a1.toNatClampNeg then none else
lt_ ((S (k + 1)).1 a1.toNatClampNeg) fun x1 =>
some (x1)
set_option maxHeartbeats 1000000 in
theorem t5_get {E : En} {X : Cx} {Q : State → Prop} {N : Nat} {k n : Nat} {a1 : Int32} {S : Mem} {o : Int32} (hr : RowAt E k n) (hF : Fx E X cX5_get RX5 2 (some .int) 0) (h : f5_get N k n a1 S = some o) (hC : Q = RQ E X (some (.int o)) S) : J E X Q S 0 [(0, .ref (eA E k)), (1, .int a1)] [] := by
  unfold f5_get at h
  refine j_iload_n hF rfl 1 rfl dX5_get_0 ?_
  refine j_if_lt (tgt := 22) hF h (by decide) dX5_get_1 (fun h => ?_) (fun h => ?_)
  · refine j_iconst (v := (0 : Int32)) hF (by decide) dX5_get_22 ?_
    obtain rfl := ret1 h
    exact j_iret hF hC dX5_get_23
  · refine j_iload_n hF rfl 1 rfl dX5_get_4 ?_
    refine j_aload_n hF rfl 0 rfl dX5_get_5 ?_
    refine gf5_0 hF (rk0 hr) (hr.2.1 _) rfl bw_1_38 dX5_get_6 ?_
    refine j_alen (t0 := 0) hF (rk1 hr) (hr.2.2 _) rfl rfl dX5_get_9 ?_
    refine j_icmp_ge (tgt := 22) hF h (by decide) dX5_get_10 (fun h => ?_) (fun h => ?_)
    · refine j_iconst (v := (0 : Int32)) hF (by decide) dX5_get_22 ?_
      obtain rfl := ret1 h
      exact j_iret hF hC dX5_get_23
    · refine j_aload_n hF rfl 0 rfl dX5_get_13 ?_
      refine gf5_0 hF (rk0 hr) (hr.2.1 _) rfl bw_1_38 dX5_get_14 ?_
      refine j_iload_n hF rfl 1 rfl dX5_get_17 ?_
      refine j_iald hF (rk1 hr) hr.2.2 h dX5_get_18 (fun h => ?_)
      refine j_nmT h (fun x1 h => ?_)
      refine j_goto (tgt := 23) hF (by decide) dX5_get_19 ?_
      obtain rfl := ret1 h
      exact j_iret hF hC dX5_get_23
set_option maxHeartbeats 1000000 in
theorem c5_get {E : En} {N : Nat} {k n : Nat} {a1 : Int32} {S : Mem} {ro : Int32} (hr : RowAt E k n) (h : f5_get N k n a1 S = some ro) : CT E yX5_get cX5_get 2 (some .int) 0 [.ref (eA E k), .int a1] S (some (.int ro)) S :=
  CT_of (by decide) (Nat.le_of_ble_eq_true rfl) (fun X hF => t5_get hr hF h rfl)
def f7_byteAt (N : Nat) (a1 : Int32) (S : Mem) : Option Int32 :=
if ((S 1).1 1) ≤ a1 then
some ((-1 : Int32))
else
bnp (f5_get N 2 200 a1 S) fun r1 =>
some (r1)
set_option maxHeartbeats 1000000 in
theorem t7_byteAt {E : En} {X : Cx} {Q : State → Prop} {N : Nat} {a1 : Int32} {S : Mem} {o : Int32} (hF : Fx E X cX7_byteAt RX7 2 (some .int) 1) (h : f7_byteAt N a1 S = some o) (hC : Q = RQ E X (some (.int o)) S) : J E X Q S 0 [(0, .ref (eA E 1)), (1, .int a1)] [] := by
  unfold f7_byteAt at h
  refine j_iload_n hF rfl 1 rfl dX7_byteAt_0 ?_
  refine j_aload_n hF rfl 0 rfl dX7_byteAt_1 ?_
  refine gf7_1 hF (by decide) (s_1 E _) rfl bw_1_44 dX7_byteAt_2 ?_
  refine j_icmp_ge (tgt := 19) hF h (by decide) dX7_byteAt_5 (fun h => ?_) (fun h => ?_)
  · refine j_iconst (v := (-1 : Int32)) hF (by decide) dX7_byteAt_19 ?_
    obtain rfl := ret1 h
    exact j_iret hF hC dX7_byteAt_20
  · refine j_aload_n hF rfl 0 rfl dX7_byteAt_8 ?_
    refine gf7_0 hF (by decide) (s_1 E _) rfl bw_1_43 dX7_byteAt_9 ?_
    refine j_iload_n hF rfl 1 rfl dX7_byteAt_12 ?_
    obtain ⟨r1, hr1, h⟩ := bnp_some h
    refine j_callV_i (As := [.int a1]) (st := []) hF rfl mv_5_get (by decide) (s_2 E _) rfl bw_2_66 rfl (by decide) (Nat.le_of_ble_eq_true rfl) dX7_byteAt_13 (c5_get (ra_2 E) hr1) ?_
    refine j_goto (tgt := 20) hF (by decide) dX7_byteAt_16 ?_
    obtain rfl := ret1 h
    exact j_iret hF hC dX7_byteAt_20
set_option maxHeartbeats 1000000 in
theorem c7_byteAt {E : En} {N : Nat} {a1 : Int32} {S : Mem} {ro : Int32} (h : f7_byteAt N a1 S = some ro) : CT E yX7_byteAt cX7_byteAt 2 (some .int) 1 [.ref (eA E 1), .int a1] S (some (.int ro)) S :=
  CT_of (by decide) (Nat.le_of_ble_eq_true rfl) (fun X hF => t7_byteAt hF h rfl)
def f4_endOfBlanks_L2 (N : Nat) (v2 : Int32) (S : Mem) : Option ((Int32) ⊕ (Int32)) :=
bnp (f7_length N S) fun r1 =>
if r1 ≤ v2 then
some (.inr (v2))
else
bnp (f7_byteAt N v2 S) fun r2 =>
if r2 = (32 : Int32) then
lt_ (v2 + (1 : Int32)) fun x3 =>
some (.inl (x3))
else
some (.inr (v2))
def f4_endOfBlanks_b32 (N : Nat) (v2 : Int32) (S : Mem) : Option Int32 :=
some (v2)
def f4_endOfBlanks (N : Nat) (a1 : Int32) (S : Mem) : Option Int32 :=
bnp (lp N (fun s => f4_endOfBlanks_L2 N s S) (a1)) fun z4 =>
f4_endOfBlanks_b32 N z4 S
set_option maxHeartbeats 1000000 in
theorem t4_endOfBlanks_L2 {E : En} {X : Cx} {Q : State → Prop} {N : Nat} {v2 : Int32} {S : Mem} {o : ((Int32) ⊕ (Int32))} (hF : Fx E X cX4_endOfBlanks RX4 3 (some .int) 2) (h : f4_endOfBlanks_L2 N v2 S = some o) (hC : Sum.elim (fun (s : (Int32)) => J E X Q S 2 [(0, .ref (eA E 4)), (2, .int s)] []) (fun (x : (Int32)) => J E X Q S 32 [(2, .int x)] []) o) : J E X Q S 2 [(0, .ref (eA E 4)), (2, .int v2)] [] := by
  unfold f4_endOfBlanks_L2 at h
  refine j_iload_n hF rfl 1 rfl dX4_endOfBlanks_2 ?_
  refine j_aload_n hF rfl 0 rfl dX4_endOfBlanks_3 ?_
  refine gf4_0 hF (by decide) (s_4 E _) rfl bw_1_80 dX4_endOfBlanks_4 ?_
  obtain ⟨r1, hr1, h⟩ := bnp_some h
  refine j_callV_i (As := []) (st := [.int v2]) hF rfl mv_7_length (by decide) (s_1 E _) rfl bw_2_61 rfl (by decide) (Nat.le_of_ble_eq_true rfl) dX4_endOfBlanks_7 (c7_length hr1) ?_
  refine j_icmp_ge (tgt := 32) hF h (by decide) dX4_endOfBlanks_10 (fun h => ?_) (fun h => ?_)
  · obtain rfl := ret1 h
    refine j_sub (lv' := [(2, .int v2)]) hF [1] rfl ?_
    exact hC
  · refine j_aload_n hF rfl 0 rfl dX4_endOfBlanks_13 ?_
    refine gf4_0 hF (by decide) (s_4 E _) rfl bw_1_80 dX4_endOfBlanks_14 ?_
    refine j_iload_n hF rfl 1 rfl dX4_endOfBlanks_17 ?_
    obtain ⟨r2, hr2, h⟩ := bnp_some h
    refine j_callV_i (As := [.int v2]) (st := []) hF rfl mv_7_byteAt (by decide) (s_1 E _) rfl bw_2_62 rfl (by decide) (Nat.le_of_ble_eq_true rfl) dX4_endOfBlanks_18 (c7_byteAt hr2) ?_
    refine j_bipush (v := (32 : Int32)) hF (by decide) dX4_endOfBlanks_21 ?_
    refine j_icmp_ne (tgt := 32) hF h (by decide) dX4_endOfBlanks_23 (fun h => ?_) (fun h => ?_)
    · obtain rfl := ret1 h
      refine j_sub (lv' := [(2, .int v2)]) hF [1] rfl ?_
      exact hC
    · refine j_iinc (v := (v2 + (1 : Int32))) (lv' := [(2, .int (v2 + (1 : Int32))), (0, .ref (eA E 4))]) (q := 1) hF rfl (congrArg (fun z => v2 + z) (by decide)) (by decide) rfl dX4_endOfBlanks_26 ?_
      refine j_nmL h (fun x3 h => ?_)
      refine j_goto (tgt := 2) hF (by decide) dX4_endOfBlanks_29 ?_
      obtain rfl := ret1 h
      refine j_sub (lv' := [(0, .ref (eA E 4)), (2, .int x3)]) hF [1, 0] rfl ?_
      exact hC
set_option maxHeartbeats 1000000 in
theorem t4_endOfBlanks_b32 {E : En} {X : Cx} {Q : State → Prop} {N : Nat} {v2 : Int32} {S : Mem} {o : Int32} (hF : Fx E X cX4_endOfBlanks RX4 3 (some .int) 2) (h : f4_endOfBlanks_b32 N v2 S = some o) (hC : Q = RQ E X (some (.int o)) S) : J E X Q S 32 [(2, .int v2)] [] := by
  unfold f4_endOfBlanks_b32 at h
  refine j_iload_n hF rfl 0 rfl dX4_endOfBlanks_32 ?_
  obtain rfl := ret1 h
  exact j_iret hF hC dX4_endOfBlanks_33
set_option maxHeartbeats 1000000 in
theorem t4_endOfBlanks {E : En} {X : Cx} {Q : State → Prop} {N : Nat} {a1 : Int32} {S : Mem} {o : Int32} (hF : Fx E X cX4_endOfBlanks RX4 3 (some .int) 2) (h : f4_endOfBlanks N a1 S = some o) (hC : Q = RQ E X (some (.int o)) S) : J E X Q S 0 [(0, .ref (eA E 4)), (1, .int a1)] [] := by
  unfold f4_endOfBlanks at h
  refine j_iload_n hF rfl 1 rfl dX4_endOfBlanks_0 ?_
  refine j_istore_n (lv' := [(2, .int a1), (0, .ref (eA E 4)), (1, .int a1)]) hF rfl (by decide) rfl dX4_endOfBlanks_1 ?_
  obtain ⟨z4, hz4, h⟩ := bnp_some h
  refine j_sub (lv' := [(0, .ref (eA E 4)), (2, .int a1)]) hF [1, 0] rfl ?_
  have hx : (fun (x : (Int32)) => J E X Q S 32 [(2, .int x)] []) z4 := by
    exact t4_endOfBlanks_b32 hF h hC
  exact lp_rule (Jh := fun (s : (Int32)) => J E X Q S 2 [(0, .ref (eA E 4)), (2, .int s)] []) (C := fun (x : (Int32)) => J E X Q S 32 [(2, .int x)] []) (fun s o h hC => t4_endOfBlanks_L2 hF h hC) N (a1) z4 hz4 hx
set_option maxHeartbeats 1000000 in
theorem c4_endOfBlanks {E : En} {N : Nat} {a1 : Int32} {S : Mem} {ro : Int32} (h : f4_endOfBlanks N a1 S = some ro) : CT E yX4_endOfBlanks cX4_endOfBlanks 3 (some .int) 2 [.ref (eA E 4), .int a1] S (some (.int ro)) S :=
  CT_of (by decide) (Nat.le_of_ble_eq_true rfl) (fun X hF => t4_endOfBlanks hF h rfl)
def f9_isBetween (N : Nat) (a0 : Int32) (a1 : Int32) (a2 : Int32) (S : Mem) : Option Int32 :=
if a0 < a1 then
some ((0 : Int32))
else
if a2 < a0 then
some ((0 : Int32))
else
some ((1 : Int32))
set_option maxHeartbeats 1000000 in
theorem t9_isBetween {E : En} {X : Cx} {Q : State → Prop} {N : Nat} {a0 : Int32} {a1 : Int32} {a2 : Int32} {S : Mem} {o : Int32} (hF : Fx E X cX9_isBetween RX9 3 (some .boolean) 0) (h : f9_isBetween N a0 a1 a2 S = some o) (hC : Q = RQ E X (some (.int o)) S) : J E X Q S 0 [(0, .int a0), (1, .int a1), (2, .int a2)] [] := by
  unfold f9_isBetween at h
  refine j_iload_n hF rfl 0 rfl dX9_isBetween_0 ?_
  refine j_iload_n hF rfl 1 rfl dX9_isBetween_1 ?_
  refine j_icmp_lt (tgt := 14) hF h (by decide) dX9_isBetween_2 (fun h => ?_) (fun h => ?_)
  · refine j_iconst (v := (0 : Int32)) hF (by decide) dX9_isBetween_14 ?_
    obtain rfl := ret1 h
    exact j_ret_boolean hF (by decide) hC dX9_isBetween_15
  · refine j_iload_n hF rfl 0 rfl dX9_isBetween_5 ?_
    refine j_iload_n hF rfl 2 rfl dX9_isBetween_6 ?_
    refine j_icmp_gt (tgt := 14) hF h (by decide) dX9_isBetween_7 (fun h => ?_) (fun h => ?_)
    · refine j_iconst (v := (0 : Int32)) hF (by decide) dX9_isBetween_14 ?_
      obtain rfl := ret1 h
      exact j_ret_boolean hF (by decide) hC dX9_isBetween_15
    · refine j_iconst (v := (1 : Int32)) hF (by decide) dX9_isBetween_10 ?_
      refine j_goto (tgt := 15) hF (by decide) dX9_isBetween_11 ?_
      obtain rfl := ret1 h
      exact j_ret_boolean hF (by decide) hC dX9_isBetween_15
set_option maxHeartbeats 1000000 in
theorem c9_isBetween {E : En} {N : Nat} {a0 : Int32} {a1 : Int32} {a2 : Int32} {S : Mem} {ro : Int32} (h : f9_isBetween N a0 a1 a2 S = some ro) : CT E yX9_isBetween cX9_isBetween 3 (some .boolean) 0 [.int a0, .int a1, .int a2] S (some (.int ro)) S :=
  CT_of (by decide) (Nat.le_of_ble_eq_true rfl) (fun X hF => t9_isBetween hF h rfl)
def f4_isLetter (N : Nat) (a0 : Int32) (S : Mem) : Option Int32 :=
bnp (f9_isBetween N a0 (97 : Int32) (122 : Int32) S) fun r1 =>
if r1 = 0 ∨ r1 = 1 then
some (r1) else none
set_option maxHeartbeats 1000000 in
theorem t4_isLetter {E : En} {X : Cx} {Q : State → Prop} {N : Nat} {a0 : Int32} {S : Mem} {o : Int32} (hF : Fx E X cX4_isLetter RX4 1 (some .boolean) 1) (h : f4_isLetter N a0 S = some o) (hC : Q = RQ E X (some (.int o)) S) : J E X Q S 0 [(0, .int a0)] [] := by
  unfold f4_isLetter at h
  refine j_iload_n hF rfl 0 rfl dX4_isLetter_0 ?_
  refine j_bipush (v := (97 : Int32)) hF (by decide) dX4_isLetter_1 ?_
  refine j_bipush (v := (122 : Int32)) hF (by decide) dX4_isLetter_3 ?_
  obtain ⟨r1, hr1, h⟩ := bnp_some h
  refine j_callN_i (As := [.int a0, .int (97 : Int32), .int (122 : Int32)]) (st := []) hF rfl rfl mv_9_isBetween rfl (by decide) (Nat.le_of_ble_eq_true rfl) dX4_isLetter_5 (c9_isBetween hr1) ?_
  obtain ⟨hz, h⟩ := zg_some h
  obtain rfl := ret1 h
  exact j_ret_boolean hF (zg_nar hz) hC dX4_isLetter_8
set_option maxHeartbeats 1000000 in
theorem c4_isLetter {E : En} {N : Nat} {a0 : Int32} {S : Mem} {ro : Int32} (h : f4_isLetter N a0 S = some ro) : CT E yX4_isLetter cX4_isLetter 1 (some .boolean) 1 [.int a0] S (some (.int ro)) S :=
  CT_of (by decide) (Nat.le_of_ble_eq_true rfl) (fun X hF => t4_isLetter hF h rfl)
def f4_isDigit (N : Nat) (a0 : Int32) (S : Mem) : Option Int32 :=
bnp (f9_isBetween N a0 (48 : Int32) (57 : Int32) S) fun r1 =>
if r1 = 0 ∨ r1 = 1 then
some (r1) else none
set_option maxHeartbeats 1000000 in
theorem t4_isDigit {E : En} {X : Cx} {Q : State → Prop} {N : Nat} {a0 : Int32} {S : Mem} {o : Int32} (hF : Fx E X cX4_isDigit RX4 1 (some .boolean) 1) (h : f4_isDigit N a0 S = some o) (hC : Q = RQ E X (some (.int o)) S) : J E X Q S 0 [(0, .int a0)] [] := by
  unfold f4_isDigit at h
  refine j_iload_n hF rfl 0 rfl dX4_isDigit_0 ?_
  refine j_bipush (v := (48 : Int32)) hF (by decide) dX4_isDigit_1 ?_
  refine j_bipush (v := (57 : Int32)) hF (by decide) dX4_isDigit_3 ?_
  obtain ⟨r1, hr1, h⟩ := bnp_some h
  refine j_callN_i (As := [.int a0, .int (48 : Int32), .int (57 : Int32)]) (st := []) hF rfl rfl mv_9_isBetween rfl (by decide) (Nat.le_of_ble_eq_true rfl) dX4_isDigit_5 (c9_isBetween hr1) ?_
  obtain ⟨hz, h⟩ := zg_some h
  obtain rfl := ret1 h
  exact j_ret_boolean hF (zg_nar hz) hC dX4_isDigit_8
set_option maxHeartbeats 1000000 in
theorem c4_isDigit {E : En} {N : Nat} {a0 : Int32} {S : Mem} {ro : Int32} (h : f4_isDigit N a0 S = some ro) : CT E yX4_isDigit cX4_isDigit 1 (some .boolean) 1 [.int a0] S (some (.int ro)) S :=
  CT_of (by decide) (Nat.le_of_ble_eq_true rfl) (fun X hF => t4_isDigit hF h rfl)
def f4_endOfDigits_L2 (N : Nat) (v2 : Int32) (S : Mem) : Option ((Int32) ⊕ (Int32)) :=
bnp (f7_length N S) fun r1 =>
if r1 ≤ v2 then
some (.inr (v2))
else
bnp (f7_byteAt N v2 S) fun r2 =>
bnp (f4_isDigit N r2 S) fun r3 =>
if r3 = 0 then
some (.inr (v2))
else
lt_ (v2 + (1 : Int32)) fun x4 =>
some (.inl (x4))
def f4_endOfDigits_b33 (N : Nat) (v2 : Int32) (S : Mem) : Option Int32 :=
some (v2)
def f4_endOfDigits (N : Nat) (a1 : Int32) (S : Mem) : Option Int32 :=
bnp (lp N (fun s => f4_endOfDigits_L2 N s S) (a1)) fun z5 =>
f4_endOfDigits_b33 N z5 S
set_option maxHeartbeats 1000000 in
theorem t4_endOfDigits_L2 {E : En} {X : Cx} {Q : State → Prop} {N : Nat} {v2 : Int32} {S : Mem} {o : ((Int32) ⊕ (Int32))} (hF : Fx E X cX4_endOfDigits RX4 3 (some .int) 2) (h : f4_endOfDigits_L2 N v2 S = some o) (hC : Sum.elim (fun (s : (Int32)) => J E X Q S 2 [(0, .ref (eA E 4)), (2, .int s)] []) (fun (x : (Int32)) => J E X Q S 33 [(2, .int x)] []) o) : J E X Q S 2 [(0, .ref (eA E 4)), (2, .int v2)] [] := by
  unfold f4_endOfDigits_L2 at h
  refine j_iload_n hF rfl 1 rfl dX4_endOfDigits_2 ?_
  refine j_aload_n hF rfl 0 rfl dX4_endOfDigits_3 ?_
  refine gf4_0 hF (by decide) (s_4 E _) rfl bw_1_80 dX4_endOfDigits_4 ?_
  obtain ⟨r1, hr1, h⟩ := bnp_some h
  refine j_callV_i (As := []) (st := [.int v2]) hF rfl mv_7_length (by decide) (s_1 E _) rfl bw_2_61 rfl (by decide) (Nat.le_of_ble_eq_true rfl) dX4_endOfDigits_7 (c7_length hr1) ?_
  refine j_icmp_ge (tgt := 33) hF h (by decide) dX4_endOfDigits_10 (fun h => ?_) (fun h => ?_)
  · obtain rfl := ret1 h
    refine j_sub (lv' := [(2, .int v2)]) hF [1] rfl ?_
    exact hC
  · refine j_aload_n hF rfl 0 rfl dX4_endOfDigits_13 ?_
    refine gf4_0 hF (by decide) (s_4 E _) rfl bw_1_80 dX4_endOfDigits_14 ?_
    refine j_iload_n hF rfl 1 rfl dX4_endOfDigits_17 ?_
    obtain ⟨r2, hr2, h⟩ := bnp_some h
    refine j_callV_i (As := [.int v2]) (st := []) hF rfl mv_7_byteAt (by decide) (s_1 E _) rfl bw_2_62 rfl (by decide) (Nat.le_of_ble_eq_true rfl) dX4_endOfDigits_18 (c7_byteAt hr2) ?_
    obtain ⟨r3, hr3, h⟩ := bnp_some h
    refine j_callS_i (As := [.int r2]) (st := []) hF rfl mv_4_isDigit bw_2_140 rfl (by decide) (Nat.le_of_ble_eq_true rfl) dX4_endOfDigits_21 (c4_isDigit hr3) ?_
    refine j_if_eq (tgt := 33) hF h (by decide) dX4_endOfDigits_24 (fun h => ?_) (fun h => ?_)
    · obtain rfl := ret1 h
      refine j_sub (lv' := [(2, .int v2)]) hF [1] rfl ?_
      exact hC
    · refine j_iinc (v := (v2 + (1 : Int32))) (lv' := [(2, .int (v2 + (1 : Int32))), (0, .ref (eA E 4))]) (q := 1) hF rfl (congrArg (fun z => v2 + z) (by decide)) (by decide) rfl dX4_endOfDigits_27 ?_
      refine j_nmL h (fun x4 h => ?_)
      refine j_goto (tgt := 2) hF (by decide) dX4_endOfDigits_30 ?_
      obtain rfl := ret1 h
      refine j_sub (lv' := [(0, .ref (eA E 4)), (2, .int x4)]) hF [1, 0] rfl ?_
      exact hC
set_option maxHeartbeats 1000000 in
theorem t4_endOfDigits_b33 {E : En} {X : Cx} {Q : State → Prop} {N : Nat} {v2 : Int32} {S : Mem} {o : Int32} (hF : Fx E X cX4_endOfDigits RX4 3 (some .int) 2) (h : f4_endOfDigits_b33 N v2 S = some o) (hC : Q = RQ E X (some (.int o)) S) : J E X Q S 33 [(2, .int v2)] [] := by
  unfold f4_endOfDigits_b33 at h
  refine j_iload_n hF rfl 0 rfl dX4_endOfDigits_33 ?_
  obtain rfl := ret1 h
  exact j_iret hF hC dX4_endOfDigits_34
set_option maxHeartbeats 1000000 in
theorem t4_endOfDigits {E : En} {X : Cx} {Q : State → Prop} {N : Nat} {a1 : Int32} {S : Mem} {o : Int32} (hF : Fx E X cX4_endOfDigits RX4 3 (some .int) 2) (h : f4_endOfDigits N a1 S = some o) (hC : Q = RQ E X (some (.int o)) S) : J E X Q S 0 [(0, .ref (eA E 4)), (1, .int a1)] [] := by
  unfold f4_endOfDigits at h
  refine j_iload_n hF rfl 1 rfl dX4_endOfDigits_0 ?_
  refine j_istore_n (lv' := [(2, .int a1), (0, .ref (eA E 4)), (1, .int a1)]) hF rfl (by decide) rfl dX4_endOfDigits_1 ?_
  obtain ⟨z5, hz5, h⟩ := bnp_some h
  refine j_sub (lv' := [(0, .ref (eA E 4)), (2, .int a1)]) hF [1, 0] rfl ?_
  have hx : (fun (x : (Int32)) => J E X Q S 33 [(2, .int x)] []) z5 := by
    exact t4_endOfDigits_b33 hF h hC
  exact lp_rule (Jh := fun (s : (Int32)) => J E X Q S 2 [(0, .ref (eA E 4)), (2, .int s)] []) (C := fun (x : (Int32)) => J E X Q S 33 [(2, .int x)] []) (fun s o h hC => t4_endOfDigits_L2 hF h hC) N (a1) z5 hz5 hx
set_option maxHeartbeats 1000000 in
theorem c4_endOfDigits {E : En} {N : Nat} {a1 : Int32} {S : Mem} {ro : Int32} (h : f4_endOfDigits N a1 S = some ro) : CT E yX4_endOfDigits cX4_endOfDigits 3 (some .int) 2 [.ref (eA E 4), .int a1] S (some (.int ro)) S :=
  CT_of (by decide) (Nat.le_of_ble_eq_true rfl) (fun X hF => t4_endOfDigits hF h rfl)
def f4_numberToken (N : Nat) (S : Mem) : Option (Int32 × Mem) :=
bnp (f7_byteAt N ((S 4).1 5) S) fun r1 =>
lt_ (r1 - (48 : Int32)) fun x2 =>
if (((S 4).1 6) - ((S 4).1 5)) = (1 : Int32) then
lt_ (wr S 4 7 x2) fun S5 =>
some (((5 : Int32), S5))
else
if (2 : Int32) < (((S 4).1 6) - ((S 4).1 5)) then
some (((1 : Int32), S))
else
if x2 = 0 then
some (((1 : Int32), S))
else
bnp (f7_byteAt N (((S 4).1 5) + (1 : Int32)) S) fun r3 =>
lt_ (wr S 4 7 (((x2 * (10 : Int32)) + r3) - (48 : Int32))) fun S4 =>
some (((5 : Int32), S4))
set_option maxHeartbeats 1000000 in
theorem t4_numberToken {E : En} {X : Cx} {Q : State → Prop} {N : Nat} {S : Mem} {o : (Int32 × Mem)} (hF : Fx E X cX4_numberToken RX4 2 (some .int) 2) (h : f4_numberToken N S = some o) (hC : Q = RQ E X (some (.int o.1)) o.2) : J E X Q S 0 [(0, .ref (eA E 4))] [] := by
  unfold f4_numberToken at h
  refine j_aload_n hF rfl 0 rfl dX4_numberToken_0 ?_
  refine gf4_0 hF (by decide) (s_4 E _) rfl bw_1_80 dX4_numberToken_1 ?_
  refine j_aload_n hF rfl 0 rfl dX4_numberToken_4 ?_
  refine gf4_5 hF (by decide) (s_4 E _) rfl bw_1_85 dX4_numberToken_5 ?_
  obtain ⟨r1, hr1, h⟩ := bnp_some h
  refine j_callV_i (As := [.int ((S 4).1 5)]) (st := []) hF rfl mv_7_byteAt (by decide) (s_1 E _) rfl bw_2_62 rfl (by decide) (Nat.le_of_ble_eq_true rfl) dX4_numberToken_8 (c7_byteAt hr1) ?_
  refine j_bipush (v := (48 : Int32)) hF (by decide) dX4_numberToken_11 ?_
  refine j_isub hF dX4_numberToken_13 ?_
  refine j_istore_n (lv' := [(1, .int (r1 - (48 : Int32))), (0, .ref (eA E 4))]) hF rfl (by decide) rfl dX4_numberToken_14 ?_
  refine j_nmL h (fun x2 h => ?_)
  refine j_aload_n hF rfl 1 rfl dX4_numberToken_15 ?_
  refine gf4_6 hF (by decide) (s_4 E _) rfl bw_1_86 dX4_numberToken_16 ?_
  refine j_aload_n hF rfl 1 rfl dX4_numberToken_19 ?_
  refine gf4_5 hF (by decide) (s_4 E _) rfl bw_1_85 dX4_numberToken_20 ?_
  refine j_isub hF dX4_numberToken_23 ?_
  refine j_iconst (v := (1 : Int32)) hF (by decide) dX4_numberToken_24 ?_
  refine j_icmp_ne (tgt := 35) hF h (by decide) dX4_numberToken_25 (fun h => ?_) (fun h => ?_)
  · refine j_aload_n hF rfl 1 rfl dX4_numberToken_35 ?_
    refine gf4_6 hF (by decide) (s_4 E _) rfl bw_1_86 dX4_numberToken_36 ?_
    refine j_aload_n hF rfl 1 rfl dX4_numberToken_39 ?_
    refine gf4_5 hF (by decide) (s_4 E _) rfl bw_1_85 dX4_numberToken_40 ?_
    refine j_isub hF dX4_numberToken_43 ?_
    refine j_iconst (v := (2 : Int32)) hF (by decide) dX4_numberToken_44 ?_
    refine j_icmp_gt (tgt := 52) hF h (by decide) dX4_numberToken_45 (fun h => ?_) (fun h => ?_)
    · refine j_iconst (v := (1 : Int32)) hF (by decide) dX4_numberToken_52 ?_
      obtain rfl := ret1 h
      exact j_iret hF hC dX4_numberToken_53
    · refine j_iload_n hF rfl 0 rfl dX4_numberToken_48 ?_
      refine j_if_ne (tgt := 54) hF h (by decide) dX4_numberToken_49 (fun h => ?_) (fun h => ?_)
      · refine j_aload_n hF rfl 1 rfl dX4_numberToken_54 ?_
        refine j_iload_n hF rfl 0 rfl dX4_numberToken_55 ?_
        refine j_bipush (v := (10 : Int32)) hF (by decide) dX4_numberToken_56 ?_
        refine j_imul hF dX4_numberToken_58 ?_
        refine j_aload_n hF rfl 1 rfl dX4_numberToken_59 ?_
        refine gf4_0 hF (by decide) (s_4 E _) rfl bw_1_80 dX4_numberToken_60 ?_
        refine j_aload_n hF rfl 1 rfl dX4_numberToken_63 ?_
        refine gf4_5 hF (by decide) (s_4 E _) rfl bw_1_85 dX4_numberToken_64 ?_
        refine j_iconst (v := (1 : Int32)) hF (by decide) dX4_numberToken_67 ?_
        refine j_iadd hF dX4_numberToken_68 ?_
        obtain ⟨r3, hr3, h⟩ := bnp_some h
        refine j_callV_i (As := [.int (((S 4).1 5) + (1 : Int32))]) (st := [.int (x2 * (10 : Int32)), .ref (eA E 4)]) hF rfl mv_7_byteAt (by decide) (s_1 E _) rfl bw_2_62 rfl (by decide) (Nat.le_of_ble_eq_true rfl) dX4_numberToken_69 (c7_byteAt hr3) ?_
        refine j_iadd hF dX4_numberToken_72 ?_
        refine j_bipush (v := (48 : Int32)) hF (by decide) dX4_numberToken_73 ?_
        refine j_isub hF dX4_numberToken_75 ?_
        refine pf4_7 hF (by decide) (s_4 E _) (s_4 E _) (Nat.le_of_ble_eq_true rfl) bw_1_87 dX4_numberToken_76 ?_
        refine j_nmM h (fun S4 h => ?_)
        refine j_iconst (v := (5 : Int32)) hF (by decide) dX4_numberToken_79 ?_
        obtain rfl := ret1 h
        exact j_iret hF hC dX4_numberToken_80
      · refine j_iconst (v := (1 : Int32)) hF (by decide) dX4_numberToken_52 ?_
        obtain rfl := ret1 h
        exact j_iret hF hC dX4_numberToken_53
  · refine j_aload_n hF rfl 1 rfl dX4_numberToken_28 ?_
    refine j_iload_n hF rfl 0 rfl dX4_numberToken_29 ?_
    refine pf4_7 hF (by decide) (s_4 E _) (s_4 E _) (Nat.le_of_ble_eq_true rfl) bw_1_87 dX4_numberToken_30 ?_
    refine j_nmM h (fun S5 h => ?_)
    refine j_iconst (v := (5 : Int32)) hF (by decide) dX4_numberToken_33 ?_
    obtain rfl := ret1 h
    exact j_iret hF hC dX4_numberToken_34
set_option maxHeartbeats 1000000 in
theorem c4_numberToken {E : En} {N : Nat} {S So : Mem} {ro : Int32} (h : f4_numberToken N S = some (ro, So)) : CT E yX4_numberToken cX4_numberToken 2 (some .int) 2 [.ref (eA E 4)] S (some (.int ro)) So :=
  CT_of (by decide) (Nat.le_of_ble_eq_true rfl) (fun X hF => t4_numberToken hF h rfl)
def f4_endOfWord_L2 (N : Nat) (v2 : Int32) (S : Mem) : Option ((Int32) ⊕ (Int32)) :=
bnp (f7_length N S) fun r1 =>
if r1 ≤ v2 then
some (.inr (v2))
else
bnp (f7_byteAt N v2 S) fun r2 =>
bnp (f4_isLetter N r2 S) fun r3 =>
if r3 = 0 then
some (.inr (v2))
else
lt_ (v2 + (1 : Int32)) fun x4 =>
some (.inl (x4))
def f4_endOfWord_b33 (N : Nat) (v2 : Int32) (S : Mem) : Option Int32 :=
some (v2)
def f4_endOfWord (N : Nat) (a1 : Int32) (S : Mem) : Option Int32 :=
bnp (lp N (fun s => f4_endOfWord_L2 N s S) (a1)) fun z5 =>
f4_endOfWord_b33 N z5 S
set_option maxHeartbeats 1000000 in
theorem t4_endOfWord_L2 {E : En} {X : Cx} {Q : State → Prop} {N : Nat} {v2 : Int32} {S : Mem} {o : ((Int32) ⊕ (Int32))} (hF : Fx E X cX4_endOfWord RX4 3 (some .int) 2) (h : f4_endOfWord_L2 N v2 S = some o) (hC : Sum.elim (fun (s : (Int32)) => J E X Q S 2 [(0, .ref (eA E 4)), (2, .int s)] []) (fun (x : (Int32)) => J E X Q S 33 [(2, .int x)] []) o) : J E X Q S 2 [(0, .ref (eA E 4)), (2, .int v2)] [] := by
  unfold f4_endOfWord_L2 at h
  refine j_iload_n hF rfl 1 rfl dX4_endOfWord_2 ?_
  refine j_aload_n hF rfl 0 rfl dX4_endOfWord_3 ?_
  refine gf4_0 hF (by decide) (s_4 E _) rfl bw_1_80 dX4_endOfWord_4 ?_
  obtain ⟨r1, hr1, h⟩ := bnp_some h
  refine j_callV_i (As := []) (st := [.int v2]) hF rfl mv_7_length (by decide) (s_1 E _) rfl bw_2_61 rfl (by decide) (Nat.le_of_ble_eq_true rfl) dX4_endOfWord_7 (c7_length hr1) ?_
  refine j_icmp_ge (tgt := 33) hF h (by decide) dX4_endOfWord_10 (fun h => ?_) (fun h => ?_)
  · obtain rfl := ret1 h
    refine j_sub (lv' := [(2, .int v2)]) hF [1] rfl ?_
    exact hC
  · refine j_aload_n hF rfl 0 rfl dX4_endOfWord_13 ?_
    refine gf4_0 hF (by decide) (s_4 E _) rfl bw_1_80 dX4_endOfWord_14 ?_
    refine j_iload_n hF rfl 1 rfl dX4_endOfWord_17 ?_
    obtain ⟨r2, hr2, h⟩ := bnp_some h
    refine j_callV_i (As := [.int v2]) (st := []) hF rfl mv_7_byteAt (by decide) (s_1 E _) rfl bw_2_62 rfl (by decide) (Nat.le_of_ble_eq_true rfl) dX4_endOfWord_18 (c7_byteAt hr2) ?_
    obtain ⟨r3, hr3, h⟩ := bnp_some h
    refine j_callS_i (As := [.int r2]) (st := []) hF rfl mv_4_isLetter bw_2_70 rfl (by decide) (Nat.le_of_ble_eq_true rfl) dX4_endOfWord_21 (c4_isLetter hr3) ?_
    refine j_if_eq (tgt := 33) hF h (by decide) dX4_endOfWord_24 (fun h => ?_) (fun h => ?_)
    · obtain rfl := ret1 h
      refine j_sub (lv' := [(2, .int v2)]) hF [1] rfl ?_
      exact hC
    · refine j_iinc (v := (v2 + (1 : Int32))) (lv' := [(2, .int (v2 + (1 : Int32))), (0, .ref (eA E 4))]) (q := 1) hF rfl (congrArg (fun z => v2 + z) (by decide)) (by decide) rfl dX4_endOfWord_27 ?_
      refine j_nmL h (fun x4 h => ?_)
      refine j_goto (tgt := 2) hF (by decide) dX4_endOfWord_30 ?_
      obtain rfl := ret1 h
      refine j_sub (lv' := [(0, .ref (eA E 4)), (2, .int x4)]) hF [1, 0] rfl ?_
      exact hC
set_option maxHeartbeats 1000000 in
theorem t4_endOfWord_b33 {E : En} {X : Cx} {Q : State → Prop} {N : Nat} {v2 : Int32} {S : Mem} {o : Int32} (hF : Fx E X cX4_endOfWord RX4 3 (some .int) 2) (h : f4_endOfWord_b33 N v2 S = some o) (hC : Q = RQ E X (some (.int o)) S) : J E X Q S 33 [(2, .int v2)] [] := by
  unfold f4_endOfWord_b33 at h
  refine j_iload_n hF rfl 0 rfl dX4_endOfWord_33 ?_
  obtain rfl := ret1 h
  exact j_iret hF hC dX4_endOfWord_34
set_option maxHeartbeats 1000000 in
theorem t4_endOfWord {E : En} {X : Cx} {Q : State → Prop} {N : Nat} {a1 : Int32} {S : Mem} {o : Int32} (hF : Fx E X cX4_endOfWord RX4 3 (some .int) 2) (h : f4_endOfWord N a1 S = some o) (hC : Q = RQ E X (some (.int o)) S) : J E X Q S 0 [(0, .ref (eA E 4)), (1, .int a1)] [] := by
  unfold f4_endOfWord at h
  refine j_iload_n hF rfl 1 rfl dX4_endOfWord_0 ?_
  refine j_istore_n (lv' := [(2, .int a1), (0, .ref (eA E 4)), (1, .int a1)]) hF rfl (by decide) rfl dX4_endOfWord_1 ?_
  obtain ⟨z5, hz5, h⟩ := bnp_some h
  refine j_sub (lv' := [(0, .ref (eA E 4)), (2, .int a1)]) hF [1, 0] rfl ?_
  have hx : (fun (x : (Int32)) => J E X Q S 33 [(2, .int x)] []) z5 := by
    exact t4_endOfWord_b33 hF h hC
  exact lp_rule (Jh := fun (s : (Int32)) => J E X Q S 2 [(0, .ref (eA E 4)), (2, .int s)] []) (C := fun (x : (Int32)) => J E X Q S 33 [(2, .int x)] []) (fun s o h hC => t4_endOfWord_L2 hF h hC) N (a1) z5 hz5 hx
set_option maxHeartbeats 1000000 in
theorem c4_endOfWord {E : En} {N : Nat} {a1 : Int32} {S : Mem} {ro : Int32} (h : f4_endOfWord N a1 S = some ro) : CT E yX4_endOfWord cX4_endOfWord 3 (some .int) 2 [.ref (eA E 4), .int a1] S (some (.int ro)) S :=
  CT_of (by decide) (Nat.le_of_ble_eq_true rfl) (fun X hF => t4_endOfWord hF h rfl)
def f7_has_L15 (N : Nat) (w : Nat) (v2 : Int32) (v4 : Int32) (S : Mem) : Option ((Int32) ⊕ (Int32 ⊕ Unit)) :=
bnp (fS_length N w S) fun r2 =>
if r2 ≤ v4 then
some (.inr (.inr ()))
else
bnp (f7_byteAt N (v2 + v4) S) fun r3 =>
bnp (fS_charAt N w v4 S) fun r4 =>
if r3 = r4 then
lt_ (v4 + (1 : Int32)) fun x5 =>
some (.inl (x5))
else
some (.inr (.inl ((0 : Int32))))
def f7_has_b49 (N : Nat) (w : Nat) (S : Mem) : Option Int32 :=
some ((1 : Int32))
def f7_has (N : Nat) (w : Nat) (a2 : Int32) (a3 : Int32) (S : Mem) : Option Int32 :=
bnp (fS_length N w S) fun r1 =>
if (a3 - a2) = r1 then
bnp (lp N (fun s => f7_has_L15 N w a2 s S) ((0 : Int32))) fun z6 => Sum.elim (fun r => some (r)) (fun x => f7_has_b49 N w S) z6
else
some ((0 : Int32))
set_option maxHeartbeats 1000000 in
theorem t7_has_L15 {E : En} {X : Cx} {Q : State → Prop} {N : Nat} {w : Nat} {v2 : Int32} {v4 : Int32} {S : Mem} {o : ((Int32) ⊕ (Int32 ⊕ Unit))} (hw : w < 3) (hF : Fx E X cX7_has RX7 5 (some .boolean) 4) (h : f7_has_L15 N w v2 v4 S = some o) (hC : Sum.elim (fun (s : (Int32)) => J E X Q S 15 [(0, .ref (eA E 1)), (1, .ref (eK E w)), (2, .int v2), (4, .int s)] []) (Sum.elim (fun (r : Int32) => Q = RQ E X (some (.int r)) S) (fun (x : Unit) => J E X Q S 49 [] [])) o) : J E X Q S 15 [(0, .ref (eA E 1)), (1, .ref (eK E w)), (2, .int v2), (4, .int v4)] [] := by
  unfold f7_has_L15 at h
  refine j_iload hF 3 rfl dX7_has_15 ?_
  refine j_aload_n hF rfl 1 rfl dX7_has_17 ?_
  obtain ⟨r2, hr2, h⟩ := bnp_some h
  refine j_callT_i (As := []) (st := [.int v4]) hF rfl hw mv_S_length bw_2_89 rfl (by decide) (Nat.le_of_ble_eq_true rfl) dX7_has_18 (cS_length hw hr2) ?_
  refine j_icmp_ge (tgt := 49) hF h (by decide) dX7_has_21 (fun h => ?_) (fun h => ?_)
  · obtain rfl := ret1 h
    refine j_sub (lv' := []) hF [] rfl ?_
    exact hC
  · refine j_aload_n hF rfl 0 rfl dX7_has_24 ?_
    refine j_iload_n hF rfl 2 rfl dX7_has_25 ?_
    refine j_iload hF 3 rfl dX7_has_26 ?_
    refine j_iadd hF dX7_has_28 ?_
    obtain ⟨r3, hr3, h⟩ := bnp_some h
    refine j_callV_i (As := [.int (v2 + v4)]) (st := []) hF rfl mv_7_byteAt (by decide) (s_1 E _) rfl bw_2_99 rfl (by decide) (Nat.le_of_ble_eq_true rfl) dX7_has_29 (c7_byteAt hr3) ?_
    refine j_aload_n hF rfl 1 rfl dX7_has_32 ?_
    refine j_iload hF 3 rfl dX7_has_33 ?_
    obtain ⟨r4, hr4, h⟩ := bnp_some h
    refine j_callT_i (As := [.int v4]) (st := [.int r3]) hF rfl hw mv_S_charAt bw_2_100 rfl (by decide) (Nat.le_of_ble_eq_true rfl) dX7_has_35 (cS_charAt hw hr4) ?_
    refine j_icmp_eq (tgt := 43) hF h (by decide) dX7_has_38 (fun h => ?_) (fun h => ?_)
    · refine j_iinc (v := (v4 + (1 : Int32))) (lv' := [(4, .int (v4 + (1 : Int32))), (0, .ref (eA E 1)), (1, .ref (eK E w)), (2, .int v2)]) (q := 3) hF rfl (congrArg (fun z => v4 + z) (by decide)) (by decide) rfl dX7_has_43 ?_
      refine j_nmL h (fun x5 h => ?_)
      refine j_goto (tgt := 15) hF (by decide) dX7_has_46 ?_
      obtain rfl := ret1 h
      refine j_sub (lv' := [(0, .ref (eA E 1)), (1, .ref (eK E w)), (2, .int v2), (4, .int x5)]) hF [1, 2, 3, 0] rfl ?_
      exact hC
    · refine j_iconst (v := (0 : Int32)) hF (by decide) dX7_has_41 ?_
      obtain rfl := ret1 h
      exact j_ret_boolean hF (by decide) hC dX7_has_42
set_option maxHeartbeats 1000000 in
theorem t7_has_b49 {E : En} {X : Cx} {Q : State → Prop} {N : Nat} {w : Nat} {S : Mem} {o : Int32} (hw : w < 3) (hF : Fx E X cX7_has RX7 5 (some .boolean) 4) (h : f7_has_b49 N w S = some o) (hC : Q = RQ E X (some (.int o)) S) : J E X Q S 49 [] [] := by
  unfold f7_has_b49 at h
  refine j_iconst (v := (1 : Int32)) hF (by decide) dX7_has_49 ?_
  obtain rfl := ret1 h
  exact j_ret_boolean hF (by decide) hC dX7_has_50
set_option maxHeartbeats 1000000 in
theorem t7_has {E : En} {X : Cx} {Q : State → Prop} {N : Nat} {w : Nat} {a2 : Int32} {a3 : Int32} {S : Mem} {o : Int32} (hw : w < 3) (hF : Fx E X cX7_has RX7 5 (some .boolean) 4) (h : f7_has N w a2 a3 S = some o) (hC : Q = RQ E X (some (.int o)) S) : J E X Q S 0 [(0, .ref (eA E 1)), (1, .ref (eK E w)), (2, .int a2), (3, .int a3)] [] := by
  unfold f7_has at h
  refine j_iload_n hF rfl 3 rfl dX7_has_0 ?_
  refine j_iload_n hF rfl 2 rfl dX7_has_1 ?_
  refine j_isub hF dX7_has_2 ?_
  refine j_aload_n hF rfl 1 rfl dX7_has_3 ?_
  obtain ⟨r1, hr1, h⟩ := bnp_some h
  refine j_callT_i (As := []) (st := [.int (a3 - a2)]) hF rfl hw mv_S_length bw_2_89 rfl (by decide) (Nat.le_of_ble_eq_true rfl) dX7_has_4 (cS_length hw hr1) ?_
  refine j_icmp_eq (tgt := 12) hF h (by decide) dX7_has_7 (fun h => ?_) (fun h => ?_)
  · refine j_iconst (v := (0 : Int32)) hF (by decide) dX7_has_12 ?_
    refine j_istore (lv' := [(4, .int (0 : Int32)), (0, .ref (eA E 1)), (1, .ref (eK E w)), (2, .int a2), (3, .int a3)]) hF (by decide) rfl dX7_has_13 ?_
    obtain ⟨z6, hz6, h⟩ := bnp_some h
    refine j_sub (lv' := [(0, .ref (eA E 1)), (1, .ref (eK E w)), (2, .int a2), (4, .int (0 : Int32))]) hF [1, 2, 3, 0] rfl ?_
    have hx : (Sum.elim (fun (r : Int32) => Q = RQ E X (some (.int r)) S) (fun (x : Unit) => J E X Q S 49 [] [])) z6 := by
      cases z6 with
      | inl rr =>
        have h : some (rr) = some o := h
        obtain rfl := ret1 h
        exact hC
      | inr x =>
        have h : f7_has_b49 N w S = some o := h
        exact t7_has_b49 hw hF h hC
    exact lp_rule (Jh := fun (s : (Int32)) => J E X Q S 15 [(0, .ref (eA E 1)), (1, .ref (eK E w)), (2, .int a2), (4, .int s)] []) (C := Sum.elim (fun (r : Int32) => Q = RQ E X (some (.int r)) S) (fun (x : Unit) => J E X Q S 49 [] [])) (fun s o h hC => t7_has_L15 hw hF h hC) N ((0 : Int32)) z6 hz6 hx
  · refine j_iconst (v := (0 : Int32)) hF (by decide) dX7_has_10 ?_
    obtain rfl := ret1 h
    exact j_ret_boolean hF (by decide) hC dX7_has_11
set_option maxHeartbeats 1000000 in
theorem c7_has {E : En} {N : Nat} {w : Nat} {a2 : Int32} {a3 : Int32} {S : Mem} {ro : Int32} (hw : w < 3) (h : f7_has N w a2 a3 S = some ro) : CT E yX7_has cX7_has 5 (some .boolean) 4 [.ref (eA E 1), .ref (eK E w), .int a2, .int a3] S (some (.int ro)) S :=
  CT_of (by decide) (Nat.le_of_ble_eq_true rfl) (fun X hF => t7_has hw hF h rfl)
def f4_wordToken (N : Nat) (S : Mem) : Option Int32 :=
bnp (f7_has N 0 ((S 4).1 5) ((S 4).1 6) S) fun r1 =>
if r1 = 0 then
bnp (f7_has N 1 ((S 4).1 5) ((S 4).1 6) S) fun r2 =>
if r2 = 0 then
bnp (f7_has N 2 ((S 4).1 5) ((S 4).1 6) S) fun r3 =>
if r3 = 0 then
some ((1 : Int32))
else
some ((4 : Int32))
else
some ((3 : Int32))
else
some ((2 : Int32))
set_option maxHeartbeats 1000000 in
theorem t4_wordToken {E : En} {X : Cx} {Q : State → Prop} {N : Nat} {S : Mem} {o : Int32} (hF : Fx E X cX4_wordToken RX4 1 (some .int) 5) (h : f4_wordToken N S = some o) (hC : Q = RQ E X (some (.int o)) S) : J E X Q S 0 [(0, .ref (eA E 4))] [] := by
  unfold f4_wordToken at h
  refine j_aload_n hF rfl 0 rfl dX4_wordToken_0 ?_
  refine gf4_0 hF (by decide) (s_4 E _) rfl bw_1_80 dX4_wordToken_1 ?_
  refine j_ldcS0 hF rfl dX4_wordToken_4 ?_
  refine j_aload_n hF rfl 0 rfl dX4_wordToken_6 ?_
  refine gf4_5 hF (by decide) (s_4 E _) rfl bw_1_85 dX4_wordToken_7 ?_
  refine j_aload_n hF rfl 0 rfl dX4_wordToken_10 ?_
  refine gf4_6 hF (by decide) (s_4 E _) rfl bw_1_86 dX4_wordToken_11 ?_
  obtain ⟨r1, hr1, h⟩ := bnp_some h
  refine j_callV_i (As := [.ref (eK E 0), .int ((S 4).1 5), .int ((S 4).1 6)]) (st := []) hF rfl mv_7_has (by decide) (s_1 E _) rfl bw_2_85 rfl (by decide) (Nat.le_of_ble_eq_true rfl) dX4_wordToken_14 (c7_has (by decide) hr1) ?_
  refine j_if_eq (tgt := 22) hF h (by decide) dX4_wordToken_17 (fun h => ?_) (fun h => ?_)
  · refine j_aload_n hF rfl 0 rfl dX4_wordToken_22 ?_
    refine gf4_0 hF (by decide) (s_4 E _) rfl bw_1_80 dX4_wordToken_23 ?_
    refine j_ldcS1 hF rfl dX4_wordToken_26 ?_
    refine j_aload_n hF rfl 0 rfl dX4_wordToken_28 ?_
    refine gf4_5 hF (by decide) (s_4 E _) rfl bw_1_85 dX4_wordToken_29 ?_
    refine j_aload_n hF rfl 0 rfl dX4_wordToken_32 ?_
    refine gf4_6 hF (by decide) (s_4 E _) rfl bw_1_86 dX4_wordToken_33 ?_
    obtain ⟨r2, hr2, h⟩ := bnp_some h
    refine j_callV_i (As := [.ref (eK E 1), .int ((S 4).1 5), .int ((S 4).1 6)]) (st := []) hF rfl mv_7_has (by decide) (s_1 E _) rfl bw_2_85 rfl (by decide) (Nat.le_of_ble_eq_true rfl) dX4_wordToken_36 (c7_has (by decide) hr2) ?_
    refine j_if_eq (tgt := 44) hF h (by decide) dX4_wordToken_39 (fun h => ?_) (fun h => ?_)
    · refine j_aload_n hF rfl 0 rfl dX4_wordToken_44 ?_
      refine gf4_0 hF (by decide) (s_4 E _) rfl bw_1_80 dX4_wordToken_45 ?_
      refine j_ldcS2 hF rfl dX4_wordToken_48 ?_
      refine j_aload_n hF rfl 0 rfl dX4_wordToken_50 ?_
      refine gf4_5 hF (by decide) (s_4 E _) rfl bw_1_85 dX4_wordToken_51 ?_
      refine j_aload_n hF rfl 0 rfl dX4_wordToken_54 ?_
      refine gf4_6 hF (by decide) (s_4 E _) rfl bw_1_86 dX4_wordToken_55 ?_
      obtain ⟨r3, hr3, h⟩ := bnp_some h
      refine j_callV_i (As := [.ref (eK E 2), .int ((S 4).1 5), .int ((S 4).1 6)]) (st := []) hF rfl mv_7_has (by decide) (s_1 E _) rfl bw_2_85 rfl (by decide) (Nat.le_of_ble_eq_true rfl) dX4_wordToken_58 (c7_has (by decide) hr3) ?_
      refine j_if_eq (tgt := 68) hF h (by decide) dX4_wordToken_61 (fun h => ?_) (fun h => ?_)
      · refine j_iconst (v := (1 : Int32)) hF (by decide) dX4_wordToken_68 ?_
        obtain rfl := ret1 h
        exact j_iret hF hC dX4_wordToken_69
      · refine j_iconst (v := (4 : Int32)) hF (by decide) dX4_wordToken_64 ?_
        refine j_goto (tgt := 69) hF (by decide) dX4_wordToken_65 ?_
        obtain rfl := ret1 h
        exact j_iret hF hC dX4_wordToken_69
    · refine j_iconst (v := (3 : Int32)) hF (by decide) dX4_wordToken_42 ?_
      obtain rfl := ret1 h
      exact j_iret hF hC dX4_wordToken_43
  · refine j_iconst (v := (2 : Int32)) hF (by decide) dX4_wordToken_20 ?_
    obtain rfl := ret1 h
    exact j_iret hF hC dX4_wordToken_21
set_option maxHeartbeats 1000000 in
theorem c4_wordToken {E : En} {N : Nat} {S : Mem} {ro : Int32} (h : f4_wordToken N S = some ro) : CT E yX4_wordToken cX4_wordToken 1 (some .int) 5 [.ref (eA E 4)] S (some (.int ro)) S :=
  CT_of (by decide) (Nat.le_of_ble_eq_true rfl) (fun X hF => t4_wordToken hF h rfl)
def f4_token (N : Nat) (S : Mem) : Option (Int32 × Mem) :=
bnp (f4_endOfBlanks N ((S 4).1 6) S) fun r1 =>
lt_ (wr S 4 5 r1) fun S2 =>
bnp (f7_byteAt N ((S2 4).1 5) S2) fun r3 =>
if 0 ≤ r3 then
bnp (f4_isLetter N r3 S2) fun r4 =>
if r4 = 0 then
bnp (f4_isDigit N r3 S2) fun r5 =>
if r5 = 0 then
lt_ (wr S2 4 6 (((S2 4).1 5) + (1 : Int32))) fun S6 =>
if r3 = (59 : Int32) then
some (((6 : Int32), S6))
else
some (((1 : Int32), S6))
else
bnp (f4_endOfDigits N ((S2 4).1 5) S2) fun r7 =>
lt_ (wr S2 4 6 r7) fun S8 =>
bnd (f4_numberToken N S8) fun r9 S10 =>
some ((r9, S10))
else
bnp (f4_endOfWord N ((S2 4).1 5) S2) fun r11 =>
lt_ (wr S2 4 6 r11) fun S12 =>
bnp (f4_wordToken N S12) fun r13 =>
some ((r13, S12))
else
some (((0 : Int32), S2))
set_option maxHeartbeats 1000000 in
theorem t4_token {E : En} {X : Cx} {Q : State → Prop} {N : Nat} {S : Mem} {o : (Int32 × Mem)} (hF : Fx E X cX4_token RX4 2 (some .int) 6) (h : f4_token N S = some o) (hC : Q = RQ E X (some (.int o.1)) o.2) : J E X Q S 0 [(0, .ref (eA E 4))] [] := by
  unfold f4_token at h
  refine j_aload_n hF rfl 0 rfl dX4_token_0 ?_
  refine j_aload_n hF rfl 0 rfl dX4_token_1 ?_
  refine j_aload_n hF rfl 0 rfl dX4_token_2 ?_
  refine gf4_6 hF (by decide) (s_4 E _) rfl bw_1_86 dX4_token_3 ?_
  obtain ⟨r1, hr1, h⟩ := bnp_some h
  refine j_callV_i (As := [.int ((S 4).1 6)]) (st := [.ref (eA E 4)]) hF rfl mv_4_endOfBlanks (by decide) (s_4 E _) rfl bw_2_57 rfl (by decide) (Nat.le_of_ble_eq_true rfl) dX4_token_6 (c4_endOfBlanks hr1) ?_
  refine pf4_5 hF (by decide) (s_4 E _) (s_4 E _) (Nat.le_of_ble_eq_true rfl) bw_1_85 dX4_token_9 ?_
  refine j_nmM h (fun S2 h => ?_)
  refine j_aload_n hF rfl 0 rfl dX4_token_12 ?_
  refine gf4_0 hF (by decide) (s_4 E _) rfl bw_1_80 dX4_token_13 ?_
  refine j_aload_n hF rfl 0 rfl dX4_token_16 ?_
  refine gf4_5 hF (by decide) (s_4 E _) rfl bw_1_85 dX4_token_17 ?_
  obtain ⟨r3, hr3, h⟩ := bnp_some h
  refine j_callV_i (As := [.int ((S2 4).1 5)]) (st := []) hF rfl mv_7_byteAt (by decide) (s_1 E _) rfl bw_2_62 rfl (by decide) (Nat.le_of_ble_eq_true rfl) dX4_token_20 (c7_byteAt hr3) ?_
  refine j_istore_n (lv' := [(1, .int r3), (0, .ref (eA E 4))]) hF rfl (by decide) rfl dX4_token_23 ?_
  refine j_iload_n hF rfl 0 rfl dX4_token_24 ?_
  refine j_if_ge (tgt := 30) hF h (by decide) dX4_token_25 (fun h => ?_) (fun h => ?_)
  · refine j_iload_n hF rfl 0 rfl dX4_token_30 ?_
    obtain ⟨r4, hr4, h⟩ := bnp_some h
    refine j_callS_i (As := [.int r3]) (st := []) hF rfl mv_4_isLetter bw_2_70 rfl (by decide) (Nat.le_of_ble_eq_true rfl) dX4_token_31 (c4_isLetter hr4) ?_
    refine j_if_eq (tgt := 54) hF h (by decide) dX4_token_34 (fun h => ?_) (fun h => ?_)
    · refine j_iload_n hF rfl 0 rfl dX4_token_54 ?_
      obtain ⟨r5, hr5, h⟩ := bnp_some h
      refine j_callS_i (As := [.int r3]) (st := []) hF rfl mv_4_isDigit bw_2_140 rfl (by decide) (Nat.le_of_ble_eq_true rfl) dX4_token_55 (c4_isDigit hr5) ?_
      refine j_if_eq (tgt := 78) hF h (by decide) dX4_token_58 (fun h => ?_) (fun h => ?_)
      · refine j_aload_n hF rfl 1 rfl dX4_token_78 ?_
        refine j_aload_n hF rfl 1 rfl dX4_token_79 ?_
        refine gf4_5 hF (by decide) (s_4 E _) rfl bw_1_85 dX4_token_80 ?_
        refine j_iconst (v := (1 : Int32)) hF (by decide) dX4_token_83 ?_
        refine j_iadd hF dX4_token_84 ?_
        refine pf4_6 hF (by decide) (s_4 E _) (s_4 E _) (Nat.le_of_ble_eq_true rfl) bw_1_86 dX4_token_85 ?_
        refine j_nmM h (fun S6 h => ?_)
        refine j_iload_n hF rfl 0 rfl dX4_token_88 ?_
        refine j_bipush (v := (59 : Int32)) hF (by decide) dX4_token_89 ?_
        refine j_icmp_ne (tgt := 99) hF h (by decide) dX4_token_91 (fun h => ?_) (fun h => ?_)
        · refine j_iconst (v := (1 : Int32)) hF (by decide) dX4_token_99 ?_
          obtain rfl := ret1 h
          exact j_iret hF hC dX4_token_100
        · refine j_bipush (v := (6 : Int32)) hF (by decide) dX4_token_94 ?_
          refine j_goto (tgt := 100) hF (by decide) dX4_token_96 ?_
          obtain rfl := ret1 h
          exact j_iret hF hC dX4_token_100
      · refine j_aload_n hF rfl 1 rfl dX4_token_61 ?_
        refine j_aload_n hF rfl 1 rfl dX4_token_62 ?_
        refine j_aload_n hF rfl 1 rfl dX4_token_63 ?_
        refine gf4_5 hF (by decide) (s_4 E _) rfl bw_1_85 dX4_token_64 ?_
        obtain ⟨r7, hr7, h⟩ := bnp_some h
        refine j_callV_i (As := [.int ((S2 4).1 5)]) (st := [.ref (eA E 4)]) hF rfl mv_4_endOfDigits (by decide) (s_4 E _) rfl bw_2_143 rfl (by decide) (Nat.le_of_ble_eq_true rfl) dX4_token_67 (c4_endOfDigits hr7) ?_
        refine pf4_6 hF (by decide) (s_4 E _) (s_4 E _) (Nat.le_of_ble_eq_true rfl) bw_1_86 dX4_token_70 ?_
        refine j_nmM h (fun S8 h => ?_)
        refine j_aload_n hF rfl 1 rfl dX4_token_73 ?_
        obtain ⟨r9, S10, hr9, h⟩ := bnd_some h
        refine j_callV_i (As := []) (st := []) hF rfl mv_4_numberToken (by decide) (s_4 E _) rfl bw_2_147 rfl (by decide) (Nat.le_of_ble_eq_true rfl) dX4_token_74 (c4_numberToken hr9) ?_
        obtain rfl := ret1 h
        exact j_iret hF hC dX4_token_77
    · refine j_aload_n hF rfl 1 rfl dX4_token_37 ?_
      refine j_aload_n hF rfl 1 rfl dX4_token_38 ?_
      refine j_aload_n hF rfl 1 rfl dX4_token_39 ?_
      refine gf4_5 hF (by decide) (s_4 E _) rfl bw_1_85 dX4_token_40 ?_
      obtain ⟨r11, hr11, h⟩ := bnp_some h
      refine j_callV_i (As := [.int ((S2 4).1 5)]) (st := [.ref (eA E 4)]) hF rfl mv_4_endOfWord (by decide) (s_4 E _) rfl bw_2_76 rfl (by decide) (Nat.le_of_ble_eq_true rfl) dX4_token_43 (c4_endOfWord hr11) ?_
      refine pf4_6 hF (by decide) (s_4 E _) (s_4 E _) (Nat.le_of_ble_eq_true rfl) bw_1_86 dX4_token_46 ?_
      refine j_nmM h (fun S12 h => ?_)
      refine j_aload_n hF rfl 1 rfl dX4_token_49 ?_
      obtain ⟨r13, hr13, h⟩ := bnp_some h
      refine j_callV_i (As := []) (st := []) hF rfl mv_4_wordToken (by decide) (s_4 E _) rfl bw_2_80 rfl (by decide) (Nat.le_of_ble_eq_true rfl) dX4_token_50 (c4_wordToken hr13) ?_
      obtain rfl := ret1 h
      exact j_iret hF hC dX4_token_53
  · refine j_iconst (v := (0 : Int32)) hF (by decide) dX4_token_28 ?_
    obtain rfl := ret1 h
    exact j_iret hF hC dX4_token_29
set_option maxHeartbeats 1000000 in
theorem c4_token {E : En} {N : Nat} {S So : Mem} {ro : Int32} (h : f4_token N S = some (ro, So)) : CT E yX4_token cX4_token 2 (some .int) 6 [.ref (eA E 4)] S (some (.int ro)) So :=
  CT_of (by decide) (Nat.le_of_ble_eq_true rfl) (fun X hF => t4_token hF h rfl)
