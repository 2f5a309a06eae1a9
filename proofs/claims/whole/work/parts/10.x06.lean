def f3_weighingsFor_L27 (N : Nat) (v1 : Int32) (v2 : Int32) (S : Mem) : Option ((Int32 × Mem) ⊕ ((Int32 × Mem) ⊕ (Mem))) :=
bnp (f6_sets_10 N S) fun r3 =>
if r3 ≤ v2 then
some (.inr (.inr (S)))
else
bnd (f3_isSureBy N v2 v1 S) fun r4 S5 =>
if r4 = 0 then
lt_ (v2 + (1 : Int32)) fun x6 =>
some (.inl (x6, S5))
else
some (.inr (.inl (((1 : Int32), S5))))
def f3_weighingsFor_b55 (N : Nat) (v1 : Int32) (S : Mem) : Option (Int32 × Mem) :=
if v1 = (3 : Int32) then
some (((-9 : Int32), S))
else
bnd (f3_isSureByNoneAndAlone N v1 S) fun r8 S9 =>
if r8 = 0 then
some (((-9 : Int32), S9))
else
some (((2 : Int32), S9))
def f3_weighingsFor (N : Nat) (a1 : Int32) (S : Mem) : Option (Int32 × Mem) :=
bnp (f8_left N S) fun r1 =>
if r1 = 0 then
some (((0 : Int32), S))
else
bnp (f8_onlyWeightOf N a1 S) fun r2 =>
if r2 = (-9 : Int32) then
bnp (lp N (fun s => f3_weighingsFor_L27 N a1 s.1 s.2) ((0 : Int32), S)) fun z7 => Sum.elim (fun r => some (r)) (fun x => f3_weighingsFor_b55 N a1 x) z7
else
some (((0 : Int32), S))
set_option maxHeartbeats 1000000 in
theorem t3_weighingsFor_L27 {E : En} {X : Cx} {Q : State → Prop} {N : Nat} {v1 : Int32} {v2 : Int32} {S : Mem} {o : ((Int32 × Mem) ⊕ ((Int32 × Mem) ⊕ (Mem)))} (hF : Fx E X cX3_weighingsFor RX3 3 (some .int) 3) (h : f3_weighingsFor_L27 N v1 v2 S = some o) (hC : Sum.elim (fun (s : (Int32 × Mem)) => J E X Q s.2 27 [(0, .ref (eA E 50)), (1, .int v1), (2, .int s.1)] []) (Sum.elim (fun (r : (Int32 × Mem)) => Q = RQ E X (some (.int r.1)) r.2) (fun (x : (Mem)) => J E X Q x 55 [(0, .ref (eA E 50)), (1, .int v1)] [])) o) : J E X Q S 27 [(0, .ref (eA E 50)), (1, .int v1), (2, .int v2)] [] := by
  unfold f3_weighingsFor_L27 at h
  refine j_iload_n hF rfl 2 rfl dX3_weighingsFor_27 ?_
  refine j_aload_n hF rfl 0 rfl dX3_weighingsFor_28 ?_
  refine gf3_0 hF (by decide) (s_50 E _) rfl bw_1_209 dX3_weighingsFor_29 ?_
  obtain ⟨r3, hr3, h⟩ := bnp_some h
  refine j_callV_i (As := []) (st := [.int v2]) hF rfl mv_6_sets (by decide) (s_10 E _) rfl bw_3_191 rfl (by decide) (Nat.le_of_ble_eq_true rfl) dX3_weighingsFor_32 (c6_sets_10 hr3) ?_
  refine j_icmp_ge (tgt := 55) hF h (by decide) dX3_weighingsFor_35 (fun h => ?_) (fun h => ?_)
  · obtain rfl := ret1 h
    refine j_sub (lv' := [(0, .ref (eA E 50)), (1, .int v1)]) hF [0, 1] rfl ?_
    exact hC
  · refine j_aload_n hF rfl 0 rfl dX3_weighingsFor_38 ?_
    refine j_iload_n hF rfl 2 rfl dX3_weighingsFor_39 ?_
    refine j_iload_n hF rfl 1 rfl dX3_weighingsFor_40 ?_
    obtain ⟨r4, S5, hr4, h⟩ := bnd_some h
    refine j_callV_i (As := [.int v2, .int v1]) (st := []) hF rfl mv_3_isSureBy (by decide) (s_50 E _) rfl bw_3_202 rfl (by decide) (Nat.le_of_ble_eq_true rfl) dX3_weighingsFor_41 (c3_isSureBy hr4) ?_
    refine j_if_eq (tgt := 49) hF h (by decide) dX3_weighingsFor_44 (fun h => ?_) (fun h => ?_)
    · refine j_iinc (v := (v2 + (1 : Int32))) (lv' := [(2, .int (v2 + (1 : Int32))), (0, .ref (eA E 50)), (1, .int v1)]) (q := 2) hF rfl (congrArg (fun z => v2 + z) (by decide)) (by decide) rfl dX3_weighingsFor_49 ?_
      refine j_nmL h (fun x6 h => ?_)
      refine j_goto (tgt := 27) hF (by decide) dX3_weighingsFor_52 ?_
      obtain rfl := ret1 h
      refine j_sub (lv' := [(0, .ref (eA E 50)), (1, .int v1), (2, .int x6)]) hF [1, 2, 0] rfl ?_
      exact hC
    · refine j_iconst (v := (1 : Int32)) hF (by decide) dX3_weighingsFor_47 ?_
      obtain rfl := ret1 h
      exact j_iret hF hC dX3_weighingsFor_48
set_option maxHeartbeats 1000000 in
theorem t3_weighingsFor_b55 {E : En} {X : Cx} {Q : State → Prop} {N : Nat} {v1 : Int32} {S : Mem} {o : (Int32 × Mem)} (hF : Fx E X cX3_weighingsFor RX3 3 (some .int) 3) (h : f3_weighingsFor_b55 N v1 S = some o) (hC : Q = RQ E X (some (.int o.1)) o.2) : J E X Q S 55 [(0, .ref (eA E 50)), (1, .int v1)] [] := by
  unfold f3_weighingsFor_b55 at h
  refine j_iload_n hF rfl 1 rfl dX3_weighingsFor_55 ?_
  refine j_iconst (v := (3 : Int32)) hF (by decide) dX3_weighingsFor_56 ?_
  refine j_icmp_eq (tgt := 72) hF h (by decide) dX3_weighingsFor_57 (fun h => ?_) (fun h => ?_)
  · refine j_bipush (v := (-9 : Int32)) hF (by decide) dX3_weighingsFor_72 ?_
    obtain rfl := ret1 h
    exact j_iret hF hC dX3_weighingsFor_74
  · refine j_aload_n hF rfl 0 rfl dX3_weighingsFor_60 ?_
    refine j_iload_n hF rfl 1 rfl dX3_weighingsFor_61 ?_
    obtain ⟨r8, S9, hr8, h⟩ := bnd_some h
    refine j_callV_i (As := [.int v1]) (st := []) hF rfl mv_3_isSureByNoneAndAlone (by decide) (s_50 E _) rfl bw_3_212 rfl (by decide) (Nat.le_of_ble_eq_true rfl) dX3_weighingsFor_62 (c3_isSureByNoneAndAlone hr8) ?_
    refine j_if_eq (tgt := 72) hF h (by decide) dX3_weighingsFor_65 (fun h => ?_) (fun h => ?_)
    · refine j_bipush (v := (-9 : Int32)) hF (by decide) dX3_weighingsFor_72 ?_
      obtain rfl := ret1 h
      exact j_iret hF hC dX3_weighingsFor_74
    · refine j_iconst (v := (2 : Int32)) hF (by decide) dX3_weighingsFor_68 ?_
      refine j_goto (tgt := 74) hF (by decide) dX3_weighingsFor_69 ?_
      obtain rfl := ret1 h
      exact j_iret hF hC dX3_weighingsFor_74
set_option maxHeartbeats 1000000 in
theorem t3_weighingsFor {E : En} {X : Cx} {Q : State → Prop} {N : Nat} {a1 : Int32} {S : Mem} {o : (Int32 × Mem)} (hF : Fx E X cX3_weighingsFor RX3 3 (some .int) 3) (h : f3_weighingsFor N a1 S = some o) (hC : Q = RQ E X (some (.int o.1)) o.2) : J E X Q S 0 [(0, .ref (eA E 50)), (1, .int a1)] [] := by
  unfold f3_weighingsFor at h
  refine j_aload_n hF rfl 0 rfl dX3_weighingsFor_0 ?_
  refine gf3_1 hF (by decide) (s_50 E _) rfl bw_1_210 dX3_weighingsFor_1 ?_
  obtain ⟨r1, hr1, h⟩ := bnp_some h
  refine j_callV_i (As := []) (st := []) hF rfl mv_8_left (by decide) (s_39 E _) rfl bw_3_173 rfl (by decide) (Nat.le_of_ble_eq_true rfl) dX3_weighingsFor_4 (c8_left hr1) ?_
  refine j_if_eq (tgt := 23) hF h (by decide) dX3_weighingsFor_7 (fun h => ?_) (fun h => ?_)
  · refine j_iconst (v := (0 : Int32)) hF (by decide) dX3_weighingsFor_23 ?_
    obtain rfl := ret1 h
    exact j_iret hF hC dX3_weighingsFor_24
  · refine j_aload_n hF rfl 0 rfl dX3_weighingsFor_10 ?_
    refine gf3_1 hF (by decide) (s_50 E _) rfl bw_1_210 dX3_weighingsFor_11 ?_
    refine j_iload_n hF rfl 1 rfl dX3_weighingsFor_14 ?_
    obtain ⟨r2, hr2, h⟩ := bnp_some h
    refine j_callV_i (As := [.int a1]) (st := []) hF rfl mv_8_onlyWeightOf (by decide) (s_39 E _) rfl bw_3_201 rfl (by decide) (Nat.le_of_ble_eq_true rfl) dX3_weighingsFor_15 (c8_onlyWeightOf hr2) ?_
    refine j_bipush (v := (-9 : Int32)) hF (by decide) dX3_weighingsFor_18 ?_
    refine j_icmp_eq (tgt := 25) hF h (by decide) dX3_weighingsFor_20 (fun h => ?_) (fun h => ?_)
    · refine j_iconst (v := (0 : Int32)) hF (by decide) dX3_weighingsFor_25 ?_
      refine j_istore_n (lv' := [(2, .int (0 : Int32)), (0, .ref (eA E 50)), (1, .int a1)]) hF rfl (by decide) rfl dX3_weighingsFor_26 ?_
      obtain ⟨z7, hz7, h⟩ := bnp_some h
      refine j_sub (lv' := [(0, .ref (eA E 50)), (1, .int a1), (2, .int (0 : Int32))]) hF [1, 2, 0] rfl ?_
      have hx : (Sum.elim (fun (r : (Int32 × Mem)) => Q = RQ E X (some (.int r.1)) r.2) (fun (x : (Mem)) => J E X Q x 55 [(0, .ref (eA E 50)), (1, .int a1)] [])) z7 := by
        cases z7 with
        | inl rr =>
          have h : some (rr) = some o := h
          obtain rfl := ret1 h
          exact hC
        | inr x =>
          have h : f3_weighingsFor_b55 N a1 x = some o := h
          exact t3_weighingsFor_b55 hF h hC
      exact lp_rule (Jh := fun (s : (Int32 × Mem)) => J E X Q s.2 27 [(0, .ref (eA E 50)), (1, .int a1), (2, .int s.1)] []) (C := Sum.elim (fun (r : (Int32 × Mem)) => Q = RQ E X (some (.int r.1)) r.2) (fun (x : (Mem)) => J E X Q x 55 [(0, .ref (eA E 50)), (1, .int a1)] [])) (fun s o h hC => t3_weighingsFor_L27 hF h hC) N ((0 : Int32), S) z7 hz7 hx
    · refine j_iconst (v := (0 : Int32)) hF (by decide) dX3_weighingsFor_23 ?_
      obtain rfl := ret1 h
      exact j_iret hF hC dX3_weighingsFor_24
set_option maxHeartbeats 1000000 in
theorem c3_weighingsFor {E : En} {N : Nat} {a1 : Int32} {S So : Mem} {ro : Int32} (h : f3_weighingsFor N a1 S = some (ro, So)) : CT E yX3_weighingsFor cX3_weighingsFor 3 (some .int) 3 [.ref (eA E 50), .int a1] S (some (.int ro)) So :=
  CT_of (by decide) (Nat.le_of_ble_eq_true rfl) (fun X hF => t3_weighingsFor hF h rfl)
def f9_fewest (N : Nat) (a1 : Int32) (S : Mem) : Option (Int32 × Mem) :=
bnp (f9_isItem N a1 S) fun r1 =>
if r1 = 0 then
some (((-1 : Int32), S))
else
bnd (f8_learn N S) fun r2 S3 =>
bnd (f3_weighingsFor N a1 S3) fun r4 S5 =>
some ((r4, S5))
set_option maxHeartbeats 1000000 in
theorem t9_fewest {E : En} {X : Cx} {Q : State → Prop} {N : Nat} {a1 : Int32} {S : Mem} {o : (Int32 × Mem)} (hF : Fx E X cX9_fewest RX9 2 (some .int) 5) (h : f9_fewest N a1 S = some o) (hC : Q = RQ E X (some (.int o.1)) o.2) : J E X Q S 0 [(0, .ref (eA E 0)), (1, .int a1)] [] := by
  unfold f9_fewest at h
  refine j_aload_n hF rfl 0 rfl dX9_fewest_0 ?_
  refine j_iload_n hF rfl 1 rfl dX9_fewest_1 ?_
  obtain ⟨r1, hr1, h⟩ := bnp_some h
  refine j_callV_i (As := [.int a1]) (st := []) hF rfl mv_9_isItem (by decide) (s_0 E _) rfl bw_2_214 rfl (by decide) (Nat.le_of_ble_eq_true rfl) dX9_fewest_2 (c9_isItem hr1) ?_
  refine j_if_ne (tgt := 10) hF h (by decide) dX9_fewest_5 (fun h => ?_) (fun h => ?_)
  · refine j_aload_n hF rfl 0 rfl dX9_fewest_10 ?_
    refine gf9_7 hF (by decide) (s_0 E _) rfl bw_1_232 dX9_fewest_11 ?_
    obtain ⟨r2, S3, hr2, h⟩ := bnd_some h
    refine j_callV_v (As := []) (st := []) hF rfl mv_8_learn (by decide) (s_39 E _) rfl bw_3_68 rfl (by decide) (Nat.le_of_ble_eq_true rfl) dX9_fewest_14 (c8_learn hr2) ?_
    refine j_aload_n hF rfl 0 rfl dX9_fewest_17 ?_
    refine gf9_8 hF (by decide) (s_0 E _) rfl bw_1_233 dX9_fewest_18 ?_
    refine j_iload_n hF rfl 1 rfl dX9_fewest_21 ?_
    obtain ⟨r4, S5, hr4, h⟩ := bnd_some h
    refine j_callV_i (As := [.int a1]) (st := []) hF rfl mv_3_weighingsFor (by decide) (s_50 E _) rfl bw_3_197 rfl (by decide) (Nat.le_of_ble_eq_true rfl) dX9_fewest_22 (c3_weighingsFor hr4) ?_
    obtain rfl := ret1 h
    exact j_iret hF hC dX9_fewest_25
  · refine j_iconst (v := (-1 : Int32)) hF (by decide) dX9_fewest_8 ?_
    obtain rfl := ret1 h
    exact j_iret hF hC dX9_fewest_9
set_option maxHeartbeats 1000000 in
theorem c9_fewest {E : En} {N : Nat} {a1 : Int32} {S So : Mem} {ro : Int32} (h : f9_fewest N a1 S = some (ro, So)) : CT E yX9_fewest cX9_fewest 2 (some .int) 5 [.ref (eA E 0), .int a1] S (some (.int ro)) So :=
  CT_of (by decide) (Nat.le_of_ble_eq_true rfl) (fun X hF => t9_fewest hF h rfl)
def f8_surelyLaughed_L35 (N : Nat) (v1 : Int32) (v2 : Int32) (v3 : Int32) (S : Mem) : Option ((Int32 × Int32) ⊕ (Int32)) :=
if (13 : Int32) ≤ v3 then
some (.inr (v2))
else
bnp (f5_get N 48 156 ((v1 * (13 : Int32)) + v3) S) fun r2 =>
lt_ (v2 + r2) fun x3 =>
lt_ (v3 + (1 : Int32)) fun x4 =>
some (.inl (x3, x4))
def f8_surelyLaughed_b63 (N : Nat) (v2 : Int32) (S : Mem) : Option Int32 :=
if v2 = ((S 39).1 8) then
some ((1 : Int32))
else
if v2 = 0 then
some ((0 : Int32))
else
some ((-9 : Int32))
def f8_surelyLaughed (N : Nat) (a1 : Int32) (S : Mem) : Option Int32 :=
if ((S 39).1 8) = 0 then
some ((-9 : Int32))
else
bnp (f0_laughOf_15 N a1 S) fun r1 =>
if r1 = (2 : Int32) then
bnp (lp N (fun s => f8_surelyLaughed_L35 N a1 s.1 s.2 S) ((0 : Int32), (0 : Int32))) fun z5 =>
f8_surelyLaughed_b63 N z5 S
else
bnp (f0_laughOf_15 N a1 S) fun r6 =>
some (r6)
set_option maxHeartbeats 1000000 in
theorem t8_surelyLaughed_L35 {E : En} {X : Cx} {Q : State → Prop} {N : Nat} {v1 : Int32} {v2 : Int32} {v3 : Int32} {S : Mem} {o : ((Int32 × Int32) ⊕ (Int32))} (hF : Fx E X cX8_surelyLaughed RX8 4 (some .int) 2) (h : f8_surelyLaughed_L35 N v1 v2 v3 S = some o) (hC : Sum.elim (fun (s : (Int32 × Int32)) => J E X Q S 35 [(0, .ref (eA E 39)), (1, .int v1), (2, .int s.1), (3, .int s.2)] []) (fun (x : (Int32)) => J E X Q S 63 [(0, .ref (eA E 39)), (2, .int x)] []) o) : J E X Q S 35 [(0, .ref (eA E 39)), (1, .int v1), (2, .int v2), (3, .int v3)] [] := by
  unfold f8_surelyLaughed_L35 at h
  refine j_iload_n hF rfl 3 rfl dX8_surelyLaughed_35 ?_
  refine j_bipush (v := (13 : Int32)) hF (by decide) dX8_surelyLaughed_36 ?_
  refine j_icmp_ge (tgt := 63) hF h (by decide) dX8_surelyLaughed_38 (fun h => ?_) (fun h => ?_)
  · obtain rfl := ret1 h
    refine j_sub (lv' := [(0, .ref (eA E 39)), (2, .int v2)]) hF [0, 2] rfl ?_
    exact hC
  · refine j_iload_n hF rfl 2 rfl dX8_surelyLaughed_41 ?_
    refine j_aload_n hF rfl 0 rfl dX8_surelyLaughed_42 ?_
    refine gf8_6 hF (by decide) (s_39 E _) rfl bw_1_173 dX8_surelyLaughed_43 ?_
    refine j_iload_n hF rfl 1 rfl dX8_surelyLaughed_46 ?_
    refine j_bipush (v := (13 : Int32)) hF (by decide) dX8_surelyLaughed_47 ?_
    refine j_imul hF dX8_surelyLaughed_49 ?_
    refine j_iload_n hF rfl 3 rfl dX8_surelyLaughed_50 ?_
    refine j_iadd hF dX8_surelyLaughed_51 ?_
    obtain ⟨r2, hr2, h⟩ := bnp_some h
    refine j_callV_i (As := [.int ((v1 * (13 : Int32)) + v3)]) (st := [.int v2]) hF rfl mv_5_get (by decide) (s_48 E _) rfl bw_3_101 rfl (by decide) (Nat.le_of_ble_eq_true rfl) dX8_surelyLaughed_52 (c5_get (ra_48 E) hr2) ?_
    refine j_iadd hF dX8_surelyLaughed_55 ?_
    refine j_istore_n (lv' := [(2, .int (v2 + r2)), (0, .ref (eA E 39)), (1, .int v1), (3, .int v3)]) hF rfl (by decide) rfl dX8_surelyLaughed_56 ?_
    refine j_nmL h (fun x3 h => ?_)
    refine j_iinc (v := (v3 + (1 : Int32))) (lv' := [(3, .int (v3 + (1 : Int32))), (2, .int x3), (0, .ref (eA E 39)), (1, .int v1)]) (q := 3) hF rfl (congrArg (fun z => v3 + z) (by decide)) (by decide) rfl dX8_surelyLaughed_57 ?_
    refine j_nmL h (fun x4 h => ?_)
    refine j_goto (tgt := 35) hF (by decide) dX8_surelyLaughed_60 ?_
    obtain rfl := ret1 h
    refine j_sub (lv' := [(0, .ref (eA E 39)), (1, .int v1), (2, .int x3), (3, .int x4)]) hF [2, 3, 1, 0] rfl ?_
    exact hC
set_option maxHeartbeats 1000000 in
theorem t8_surelyLaughed_b63 {E : En} {X : Cx} {Q : State → Prop} {N : Nat} {v2 : Int32} {S : Mem} {o : Int32} (hF : Fx E X cX8_surelyLaughed RX8 4 (some .int) 2) (h : f8_surelyLaughed_b63 N v2 S = some o) (hC : Q = RQ E X (some (.int o)) S) : J E X Q S 63 [(0, .ref (eA E 39)), (2, .int v2)] [] := by
  unfold f8_surelyLaughed_b63 at h
  refine j_iload_n hF rfl 1 rfl dX8_surelyLaughed_63 ?_
  refine j_aload_n hF rfl 0 rfl dX8_surelyLaughed_64 ?_
  refine gf8_8 hF (by decide) (s_39 E _) rfl bw_1_175 dX8_surelyLaughed_65 ?_
  refine j_icmp_ne (tgt := 73) hF h (by decide) dX8_surelyLaughed_68 (fun h => ?_) (fun h => ?_)
  · refine j_iload_n hF rfl 1 rfl dX8_surelyLaughed_73 ?_
    refine j_if_ne (tgt := 81) hF h (by decide) dX8_surelyLaughed_74 (fun h => ?_) (fun h => ?_)
    · refine j_bipush (v := (-9 : Int32)) hF (by decide) dX8_surelyLaughed_81 ?_
      obtain rfl := ret1 h
      exact j_iret hF hC dX8_surelyLaughed_83
    · refine j_iconst (v := (0 : Int32)) hF (by decide) dX8_surelyLaughed_77 ?_
      refine j_goto (tgt := 83) hF (by decide) dX8_surelyLaughed_78 ?_
      obtain rfl := ret1 h
      exact j_iret hF hC dX8_surelyLaughed_83
  · refine j_iconst (v := (1 : Int32)) hF (by decide) dX8_surelyLaughed_71 ?_
    obtain rfl := ret1 h
    exact j_iret hF hC dX8_surelyLaughed_72
set_option maxHeartbeats 1000000 in
theorem t8_surelyLaughed {E : En} {X : Cx} {Q : State → Prop} {N : Nat} {a1 : Int32} {S : Mem} {o : Int32} (hF : Fx E X cX8_surelyLaughed RX8 4 (some .int) 2) (h : f8_surelyLaughed N a1 S = some o) (hC : Q = RQ E X (some (.int o)) S) : J E X Q S 0 [(0, .ref (eA E 39)), (1, .int a1)] [] := by
  unfold f8_surelyLaughed at h
  refine j_aload_n hF rfl 0 rfl dX8_surelyLaughed_0 ?_
  refine gf8_8 hF (by decide) (s_39 E _) rfl bw_1_175 dX8_surelyLaughed_1 ?_
  refine j_if_ne (tgt := 10) hF h (by decide) dX8_surelyLaughed_4 (fun h => ?_) (fun h => ?_)
  · refine j_aload_n hF rfl 0 rfl dX8_surelyLaughed_10 ?_
    refine gf8_1 hF (by decide) (s_39 E _) rfl bw_1_168 dX8_surelyLaughed_11 ?_
    refine j_iload_n hF rfl 1 rfl dX8_surelyLaughed_14 ?_
    obtain ⟨r1, hr1, h⟩ := bnp_some h
    refine j_callV_i (As := [.int a1]) (st := []) hF rfl mv_0_laughOf (by decide) (s_15 E _) rfl bw_3_86 rfl (by decide) (Nat.le_of_ble_eq_true rfl) dX8_surelyLaughed_15 (c0_laughOf_15 hr1) ?_
    refine j_iconst (v := (2 : Int32)) hF (by decide) dX8_surelyLaughed_18 ?_
    refine j_icmp_eq (tgt := 31) hF h (by decide) dX8_surelyLaughed_19 (fun h => ?_) (fun h => ?_)
    · refine j_iconst (v := (0 : Int32)) hF (by decide) dX8_surelyLaughed_31 ?_
      refine j_istore_n (lv' := [(2, .int (0 : Int32)), (0, .ref (eA E 39)), (1, .int a1)]) hF rfl (by decide) rfl dX8_surelyLaughed_32 ?_
      refine j_iconst (v := (0 : Int32)) hF (by decide) dX8_surelyLaughed_33 ?_
      refine j_istore_n (lv' := [(3, .int (0 : Int32)), (2, .int (0 : Int32)), (0, .ref (eA E 39)), (1, .int a1)]) hF rfl (by decide) rfl dX8_surelyLaughed_34 ?_
      obtain ⟨z5, hz5, h⟩ := bnp_some h
      refine j_sub (lv' := [(0, .ref (eA E 39)), (1, .int a1), (2, .int (0 : Int32)), (3, .int (0 : Int32))]) hF [2, 3, 1, 0] rfl ?_
      have hx : (fun (x : (Int32)) => J E X Q S 63 [(0, .ref (eA E 39)), (2, .int x)] []) z5 := by
        exact t8_surelyLaughed_b63 hF h hC
      exact lp_rule (Jh := fun (s : (Int32 × Int32)) => J E X Q S 35 [(0, .ref (eA E 39)), (1, .int a1), (2, .int s.1), (3, .int s.2)] []) (C := fun (x : (Int32)) => J E X Q S 63 [(0, .ref (eA E 39)), (2, .int x)] []) (fun s o h hC => t8_surelyLaughed_L35 hF h hC) N ((0 : Int32), (0 : Int32)) z5 hz5 hx
    · refine j_aload_n hF rfl 0 rfl dX8_surelyLaughed_22 ?_
      refine gf8_1 hF (by decide) (s_39 E _) rfl bw_1_168 dX8_surelyLaughed_23 ?_
      refine j_iload_n hF rfl 1 rfl dX8_surelyLaughed_26 ?_
      obtain ⟨r6, hr6, h⟩ := bnp_some h
      refine j_callV_i (As := [.int a1]) (st := []) hF rfl mv_0_laughOf (by decide) (s_15 E _) rfl bw_3_86 rfl (by decide) (Nat.le_of_ble_eq_true rfl) dX8_surelyLaughed_27 (c0_laughOf_15 hr6) ?_
      obtain rfl := ret1 h
      exact j_iret hF hC dX8_surelyLaughed_30
  · refine j_bipush (v := (-9 : Int32)) hF (by decide) dX8_surelyLaughed_7 ?_
    obtain rfl := ret1 h
    exact j_iret hF hC dX8_surelyLaughed_9
set_option maxHeartbeats 1000000 in
theorem c8_surelyLaughed {E : En} {N : Nat} {a1 : Int32} {S : Mem} {ro : Int32} (h : f8_surelyLaughed N a1 S = some ro) : CT E yX8_surelyLaughed cX8_surelyLaughed 4 (some .int) 2 [.ref (eA E 39), .int a1] S (some (.int ro)) S :=
  CT_of (by decide) (Nat.le_of_ble_eq_true rfl) (fun X hF => t8_surelyLaughed hF h rfl)
def f9_laugh (N : Nat) (a1 : Int32) (S : Mem) : Option (Int32 × Mem) :=
bnp (f9_isLine N a1 S) fun r1 =>
if r1 = 0 then
some (((-1 : Int32), S))
else
bnd (f9_known N S) fun r2 S3 =>
bnp (f8_surelyLaughed N a1 S3) fun r4 =>
some ((r4, S3))
set_option maxHeartbeats 1000000 in
theorem t9_laugh {E : En} {X : Cx} {Q : State → Prop} {N : Nat} {a1 : Int32} {S : Mem} {o : (Int32 × Mem)} (hF : Fx E X cX9_laugh RX9 2 (some .int) 6) (h : f9_laugh N a1 S = some o) (hC : Q = RQ E X (some (.int o.1)) o.2) : J E X Q S 0 [(0, .ref (eA E 0)), (1, .int a1)] [] := by
  unfold f9_laugh at h
  refine j_aload_n hF rfl 0 rfl dX9_laugh_0 ?_
  refine j_iload_n hF rfl 1 rfl dX9_laugh_1 ?_
  obtain ⟨r1, hr1, h⟩ := bnp_some h
  refine j_callV_i (As := [.int a1]) (st := []) hF rfl mv_9_isLine (by decide) (s_0 E _) rfl bw_3_35 rfl (by decide) (Nat.le_of_ble_eq_true rfl) dX9_laugh_2 (c9_isLine hr1) ?_
  refine j_if_eq (tgt := 19) hF h (by decide) dX9_laugh_5 (fun h => ?_) (fun h => ?_)
  · refine j_iconst (v := (-1 : Int32)) hF (by decide) dX9_laugh_19 ?_
    obtain rfl := ret1 h
    exact j_iret hF hC dX9_laugh_20
  · refine j_aload_n hF rfl 0 rfl dX9_laugh_8 ?_
    obtain ⟨r2, S3, hr2, h⟩ := bnd_some h
    refine j_callV_r (As := []) (st := []) hF rfl mv_9_known (by decide) (s_0 E _) rfl bw_3_64 rfl (by decide) (Nat.le_of_ble_eq_true rfl) dX9_laugh_9 (c9_known hr2) ?_
    refine j_iload_n hF rfl 1 rfl dX9_laugh_12 ?_
    obtain ⟨r4, hr4, h⟩ := bnp_some h
    refine j_callV_i (As := [.int a1]) (st := []) hF rfl mv_8_surelyLaughed (by decide) (s_39 E _) rfl bw_3_220 rfl (by decide) (Nat.le_of_ble_eq_true rfl) dX9_laugh_13 (c8_surelyLaughed hr4) ?_
    refine j_goto (tgt := 20) hF (by decide) dX9_laugh_16 ?_
    obtain rfl := ret1 h
    exact j_iret hF hC dX9_laugh_20
set_option maxHeartbeats 1000000 in
theorem c9_laugh {E : En} {N : Nat} {a1 : Int32} {S So : Mem} {ro : Int32} (h : f9_laugh N a1 S = some (ro, So)) : CT E yX9_laugh cX9_laugh 2 (some .int) 6 [.ref (eA E 0), .int a1] S (some (.int ro)) So :=
  CT_of (by decide) (Nat.le_of_ble_eq_true rfl) (fun X hF => t9_laugh hF h rfl)
def f0_unheardLines_15_b24 (N : Nat) (v1 : Int32) (v2 : Int32) (S : Mem) : Option ((Int32 × Int32) ⊕ (Int32)) :=
lt_ (v2 + (1 : Int32)) fun x2 =>
some (.inl (v1, x2))
def f0_unheardLines_15_L4 (N : Nat) (v1 : Int32) (v2 : Int32) (S : Mem) : Option ((Int32 × Int32) ⊕ (Int32)) :=
if ((S 15).1 3) ≤ v2 then
some (.inr (v1))
else
bnp (f0_laughOf_15 N v2 S) fun r1 =>
if r1 = (2 : Int32) then
lt_ (v1 + (1 : Int32)) fun x3 =>
f0_unheardLines_15_b24 N x3 v2 S
else
f0_unheardLines_15_b24 N v1 v2 S
def f0_unheardLines_15_b30 (N : Nat) (v1 : Int32) (S : Mem) : Option Int32 :=
some (v1)
def f0_unheardLines_15 (N : Nat) (S : Mem) : Option Int32 :=
bnp (lp N (fun s => f0_unheardLines_15_L4 N s.1 s.2 S) ((0 : Int32), (0 : Int32))) fun z4 =>
f0_unheardLines_15_b30 N z4 S
set_option maxHeartbeats 1000000 in
theorem t0_unheardLines_15_b24 {E : En} {X : Cx} {Q : State → Prop} {N : Nat} {v1 : Int32} {v2 : Int32} {S : Mem} {o : ((Int32 × Int32) ⊕ (Int32))} (hF : Fx E X cX0_unheardLines RX0 3 (some .int) 2) (h : f0_unheardLines_15_b24 N v1 v2 S = some o) (hC : Sum.elim (fun (s : (Int32 × Int32)) => J E X Q S 4 [(0, .ref (eA E 15)), (1, .int s.1), (2, .int s.2)] []) (fun (x : (Int32)) => J E X Q S 30 [(1, .int x)] []) o) : J E X Q S 24 [(0, .ref (eA E 15)), (1, .int v1), (2, .int v2)] [] := by
  unfold f0_unheardLines_15_b24 at h
  refine j_iinc (v := (v2 + (1 : Int32))) (lv' := [(2, .int (v2 + (1 : Int32))), (0, .ref (eA E 15)), (1, .int v1)]) (q := 2) hF rfl (congrArg (fun z => v2 + z) (by decide)) (by decide) rfl dX0_unheardLines_24 ?_
  refine j_nmL h (fun x2 h => ?_)
  refine j_goto (tgt := 4) hF (by decide) dX0_unheardLines_27 ?_
  obtain rfl := ret1 h
  refine j_sub (lv' := [(0, .ref (eA E 15)), (1, .int v1), (2, .int x2)]) hF [1, 2, 0] rfl ?_
  exact hC
set_option maxHeartbeats 1000000 in
theorem t0_unheardLines_15_L4 {E : En} {X : Cx} {Q : State → Prop} {N : Nat} {v1 : Int32} {v2 : Int32} {S : Mem} {o : ((Int32 × Int32) ⊕ (Int32))} (hF : Fx E X cX0_unheardLines RX0 3 (some .int) 2) (h : f0_unheardLines_15_L4 N v1 v2 S = some o) (hC : Sum.elim (fun (s : (Int32 × Int32)) => J E X Q S 4 [(0, .ref (eA E 15)), (1, .int s.1), (2, .int s.2)] []) (fun (x : (Int32)) => J E X Q S 30 [(1, .int x)] []) o) : J E X Q S 4 [(0, .ref (eA E 15)), (1, .int v1), (2, .int v2)] [] := by
  unfold f0_unheardLines_15_L4 at h
  refine j_iload_n hF rfl 2 rfl dX0_unheardLines_4 ?_
  refine j_aload_n hF rfl 0 rfl dX0_unheardLines_5 ?_
  refine gf0_3 hF (by decide) (s_15 E _) rfl bw_1_118 dX0_unheardLines_6 ?_
  refine j_icmp_ge (tgt := 30) hF h (by decide) dX0_unheardLines_9 (fun h => ?_) (fun h => ?_)
  · obtain rfl := ret1 h
    refine j_sub (lv' := [(1, .int v1)]) hF [1] rfl ?_
    exact hC
  · refine j_aload_n hF rfl 0 rfl dX0_unheardLines_12 ?_
    refine j_iload_n hF rfl 2 rfl dX0_unheardLines_13 ?_
    obtain ⟨r1, hr1, h⟩ := bnp_some h
    refine j_callV_i (As := [.int v2]) (st := []) hF rfl mv_0_laughOf (by decide) (s_15 E _) rfl bw_4_6 rfl (by decide) (Nat.le_of_ble_eq_true rfl) dX0_unheardLines_14 (c0_laughOf_15 hr1) ?_
    refine j_iconst (v := (2 : Int32)) hF (by decide) dX0_unheardLines_17 ?_
    refine j_icmp_ne (tgt := 24) hF h (by decide) dX0_unheardLines_18 (fun h => ?_) (fun h => ?_)
    · exact t0_unheardLines_15_b24 hF h hC
    · refine j_iinc (v := (v1 + (1 : Int32))) (lv' := [(1, .int (v1 + (1 : Int32))), (0, .ref (eA E 15)), (2, .int v2)]) (q := 1) hF rfl (congrArg (fun z => v1 + z) (by decide)) (by decide) rfl dX0_unheardLines_21 ?_
      refine j_nmL h (fun x3 h => ?_)
      refine j_sub (lv' := [(0, .ref (eA E 15)), (1, .int x3), (2, .int v2)]) hF [1, 0, 2] rfl ?_
      exact t0_unheardLines_15_b24 hF h hC
set_option maxHeartbeats 1000000 in
theorem t0_unheardLines_15_b30 {E : En} {X : Cx} {Q : State → Prop} {N : Nat} {v1 : Int32} {S : Mem} {o : Int32} (hF : Fx E X cX0_unheardLines RX0 3 (some .int) 2) (h : f0_unheardLines_15_b30 N v1 S = some o) (hC : Q = RQ E X (some (.int o)) S) : J E X Q S 30 [(1, .int v1)] [] := by
  unfold f0_unheardLines_15_b30 at h
  refine j_iload_n hF rfl 0 rfl dX0_unheardLines_30 ?_
  obtain rfl := ret1 h
  exact j_iret hF hC dX0_unheardLines_31
set_option maxHeartbeats 1000000 in
theorem t0_unheardLines_15 {E : En} {X : Cx} {Q : State → Prop} {N : Nat} {S : Mem} {o : Int32} (hF : Fx E X cX0_unheardLines RX0 3 (some .int) 2) (h : f0_unheardLines_15 N S = some o) (hC : Q = RQ E X (some (.int o)) S) : J E X Q S 0 [(0, .ref (eA E 15))] [] := by
  unfold f0_unheardLines_15 at h
  refine j_iconst (v := (0 : Int32)) hF (by decide) dX0_unheardLines_0 ?_
  refine j_istore_n (lv' := [(1, .int (0 : Int32)), (0, .ref (eA E 15))]) hF rfl (by decide) rfl dX0_unheardLines_1 ?_
  refine j_iconst (v := (0 : Int32)) hF (by decide) dX0_unheardLines_2 ?_
  refine j_istore_n (lv' := [(2, .int (0 : Int32)), (1, .int (0 : Int32)), (0, .ref (eA E 15))]) hF rfl (by decide) rfl dX0_unheardLines_3 ?_
  obtain ⟨z4, hz4, h⟩ := bnp_some h
  refine j_sub (lv' := [(0, .ref (eA E 15)), (1, .int (0 : Int32)), (2, .int (0 : Int32))]) hF [2, 1, 0] rfl ?_
  have hx : (fun (x : (Int32)) => J E X Q S 30 [(1, .int x)] []) z4 := by
    exact t0_unheardLines_15_b30 hF h hC
  exact lp_rule (Jh := fun (s : (Int32 × Int32)) => J E X Q S 4 [(0, .ref (eA E 15)), (1, .int s.1), (2, .int s.2)] []) (C := fun (x : (Int32)) => J E X Q S 30 [(1, .int x)] []) (fun s o h hC => t0_unheardLines_15_L4 hF h hC) N ((0 : Int32), (0 : Int32)) z4 hz4 hx
set_option maxHeartbeats 1000000 in
theorem c0_unheardLines_15 {E : En} {N : Nat} {S : Mem} {ro : Int32} (h : f0_unheardLines_15 N S = some ro) : CT E yX0_unheardLines cX0_unheardLines 3 (some .int) 2 [.ref (eA E 15)] S (some (.int ro)) S :=
  CT_of (by decide) (Nat.le_of_ble_eq_true rfl) (fun X hF => t0_unheardLines_15 hF h rfl)
def f8_chance_b39 (N : Nat) (v1 : Int32) (v2 : Int32) (v3 : Int32) (v6 : Int32) (v7 : Int32) (w0 : Int64) (w1 : Int64) (S : Mem) : Option ((Int64 × Int32) ⊕ (Int64)) :=
lt_ (w1 * w0) fun x2 =>
lt_ (v7 + (1 : Int32)) fun x3 =>
some (.inl (x2, x3))
def f8_chance_L15 (N : Nat) (v1 : Int32) (v2 : Int32) (v3 : Int32) (v6 : Int32) (v4 : Int64) (v7 : Int32) (S : Mem) : Option ((Int64 × Int32) ⊕ (Int64)) :=
if v6 ≤ v7 then
some (.inr (v4))
else
if v1 ≤ v7 then
f8_chance_b39 N v1 v2 v3 v6 v7 (v3 - v2).toInt64 v4 S
else
f8_chance_b39 N v1 v2 v3 v6 v7 v2.toInt64 v4 S
def f8_chance_b48 (N : Nat) (v4 : Int64) (S : Mem) : Option Int64 :=
some (v4)
def f8_chance (N : Nat) (a1 : Int32) (a2 : Int32) (a3 : Int32) (S : Mem) : Option Int64 :=
bnp (f0_unheardLines_15 N S) fun r1 =>
bnp (lp N (fun s => f8_chance_L15 N a1 a2 a3 r1 s.1 s.2 S) ((1 : Int64), (0 : Int32))) fun z4 =>
f8_chance_b48 N z4 S
set_option maxHeartbeats 1000000 in
theorem t8_chance_b39 {E : En} {X : Cx} {Q : State → Prop} {N : Nat} {v1 : Int32} {v2 : Int32} {v3 : Int32} {v6 : Int32} {v7 : Int32} {w0 : Int64} {w1 : Int64} {S : Mem} {o : ((Int64 × Int32) ⊕ (Int64))} (hF : Fx E X cX8_chance RX8 8 (some .long) 3) (h : f8_chance_b39 N v1 v2 v3 v6 v7 w0 w1 S = some o) (hC : Sum.elim (fun (s : (Int64 × Int32)) => J E X Q S 15 [(1, .int v1), (2, .int v2), (3, .int v3), (4, .long s.1), (6, .int v6), (7, .int s.2)] []) (fun (x : (Int64)) => J E X Q S 48 [(4, .long x)] []) o) : J E X Q S 39 [(1, .int v1), (2, .int v2), (3, .int v3), (6, .int v6), (7, .int v7)] [.long w0, .long w1] := by
  unfold f8_chance_b39 at h
  refine j_lmul hF dX8_chance_39 ?_
  refine j_lstore (lv' := [(4, .long (w1 * w0)), (1, .int v1), (2, .int v2), (3, .int v3), (6, .int v6), (7, .int v7)]) hF (by decide) rfl dX8_chance_40 ?_
  refine j_nmLL h (fun x2 h => ?_)
  refine j_iinc (v := (v7 + (1 : Int32))) (lv' := [(7, .int (v7 + (1 : Int32))), (4, .long x2), (1, .int v1), (2, .int v2), (3, .int v3), (6, .int v6)]) (q := 5) hF rfl (congrArg (fun z => v7 + z) (by decide)) (by decide) rfl dX8_chance_42 ?_
  refine j_nmL h (fun x3 h => ?_)
  refine j_goto (tgt := 15) hF (by decide) dX8_chance_45 ?_
  obtain rfl := ret1 h
  refine j_sub (lv' := [(1, .int v1), (2, .int v2), (3, .int v3), (4, .long x2), (6, .int v6), (7, .int x3)]) hF [2, 3, 4, 1, 5, 0] rfl ?_
  exact hC
set_option maxHeartbeats 1000000 in
theorem t8_chance_L15 {E : En} {X : Cx} {Q : State → Prop} {N : Nat} {v1 : Int32} {v2 : Int32} {v3 : Int32} {v6 : Int32} {v4 : Int64} {v7 : Int32} {S : Mem} {o : ((Int64 × Int32) ⊕ (Int64))} (hF : Fx E X cX8_chance RX8 8 (some .long) 3) (h : f8_chance_L15 N v1 v2 v3 v6 v4 v7 S = some o) (hC : Sum.elim (fun (s : (Int64 × Int32)) => J E X Q S 15 [(1, .int v1), (2, .int v2), (3, .int v3), (4, .long s.1), (6, .int v6), (7, .int s.2)] []) (fun (x : (Int64)) => J E X Q S 48 [(4, .long x)] []) o) : J E X Q S 15 [(1, .int v1), (2, .int v2), (3, .int v3), (4, .long v4), (6, .int v6), (7, .int v7)] [] := by
  unfold f8_chance_L15 at h
  refine j_iload hF 5 rfl dX8_chance_15 ?_
  refine j_iload hF 4 rfl dX8_chance_17 ?_
  refine j_icmp_ge (tgt := 48) hF h (by decide) dX8_chance_19 (fun h => ?_) (fun h => ?_)
  · obtain rfl := ret1 h
    refine j_sub (lv' := [(4, .long v4)]) hF [3] rfl ?_
    exact hC
  · refine j_lload hF 3 rfl dX8_chance_22 ?_
    refine j_iload hF 5 rfl dX8_chance_24 ?_
    refine j_iload_n hF rfl 0 rfl dX8_chance_26 ?_
    refine j_icmp_ge (tgt := 35) hF h (by decide) dX8_chance_27 (fun h => ?_) (fun h => ?_)
    · refine j_iload_n hF rfl 2 rfl dX8_chance_35 ?_
      refine j_iload_n hF rfl 1 rfl dX8_chance_36 ?_
      refine j_isub hF dX8_chance_37 ?_
      refine j_i2l hF dX8_chance_38 ?_
      refine j_sub (lv' := [(1, .int v1), (2, .int v2), (3, .int v3), (6, .int v6), (7, .int v7)]) hF [0, 1, 2, 4, 5] rfl ?_
      exact t8_chance_b39 hF h hC
    · refine j_iload_n hF rfl 1 rfl dX8_chance_30 ?_
      refine j_i2l hF dX8_chance_31 ?_
      refine j_goto (tgt := 39) hF (by decide) dX8_chance_32 ?_
      refine j_sub (lv' := [(1, .int v1), (2, .int v2), (3, .int v3), (6, .int v6), (7, .int v7)]) hF [0, 1, 2, 4, 5] rfl ?_
      exact t8_chance_b39 hF h hC
set_option maxHeartbeats 1000000 in
theorem t8_chance_b48 {E : En} {X : Cx} {Q : State → Prop} {N : Nat} {v4 : Int64} {S : Mem} {o : Int64} (hF : Fx E X cX8_chance RX8 8 (some .long) 3) (h : f8_chance_b48 N v4 S = some o) (hC : Q = RQ E X (some (.long o)) S) : J E X Q S 48 [(4, .long v4)] [] := by
  unfold f8_chance_b48 at h
  refine j_lload hF 0 rfl dX8_chance_48 ?_
  obtain rfl := ret1 h
  exact j_lret hF hC dX8_chance_50
set_option maxHeartbeats 1000000 in
theorem t8_chance {E : En} {X : Cx} {Q : State → Prop} {N : Nat} {a1 : Int32} {a2 : Int32} {a3 : Int32} {S : Mem} {o : Int64} (hF : Fx E X cX8_chance RX8 8 (some .long) 3) (h : f8_chance N a1 a2 a3 S = some o) (hC : Q = RQ E X (some (.long o)) S) : J E X Q S 0 [(0, .ref (eA E 39)), (1, .int a1), (2, .int a2), (3, .int a3)] [] := by
  unfold f8_chance at h
  refine j_lconst (v := (1 : Int64)) hF (by decide) dX8_chance_0 ?_
  refine j_lstore (lv' := [(4, .long (1 : Int64)), (0, .ref (eA E 39)), (1, .int a1), (2, .int a2), (3, .int a3)]) hF (by decide) rfl dX8_chance_1 ?_
  refine j_aload_n hF rfl 1 rfl dX8_chance_3 ?_
  refine gf8_1 hF (by decide) (s_39 E _) rfl bw_1_168 dX8_chance_4 ?_
  obtain ⟨r1, hr1, h⟩ := bnp_some h
  refine j_callV_i (As := []) (st := []) hF rfl mv_0_unheardLines (by decide) (s_15 E _) rfl bw_4_2 rfl (by decide) (Nat.le_of_ble_eq_true rfl) dX8_chance_7 (c0_unheardLines_15 hr1) ?_
  refine j_istore (lv' := [(6, .int r1), (4, .long (1 : Int64)), (0, .ref (eA E 39)), (1, .int a1), (2, .int a2), (3, .int a3)]) hF (by decide) rfl dX8_chance_10 ?_
  refine j_iconst (v := (0 : Int32)) hF (by decide) dX8_chance_12 ?_
  refine j_istore (lv' := [(7, .int (0 : Int32)), (6, .int r1), (4, .long (1 : Int64)), (0, .ref (eA E 39)), (1, .int a1), (2, .int a2), (3, .int a3)]) hF (by decide) rfl dX8_chance_13 ?_
  obtain ⟨z4, hz4, h⟩ := bnp_some h
  refine j_sub (lv' := [(1, .int a1), (2, .int a2), (3, .int a3), (4, .long (1 : Int64)), (6, .int r1), (7, .int (0 : Int32))]) hF [4, 5, 6, 2, 1, 0] rfl ?_
  have hx : (fun (x : (Int64)) => J E X Q S 48 [(4, .long x)] []) z4 := by
    exact t8_chance_b48 hF h hC
  exact lp_rule (Jh := fun (s : (Int64 × Int32)) => J E X Q S 15 [(1, .int a1), (2, .int a2), (3, .int a3), (4, .long s.1), (6, .int r1), (7, .int s.2)] []) (C := fun (x : (Int64)) => J E X Q S 48 [(4, .long x)] []) (fun s o h hC => t8_chance_L15 hF h hC) N ((1 : Int64), (0 : Int32)) z4 hz4 hx
set_option maxHeartbeats 1000000 in
theorem c8_chance {E : En} {N : Nat} {a1 : Int32} {a2 : Int32} {a3 : Int32} {S : Mem} {ro : Int64} (h : f8_chance N a1 a2 a3 S = some ro) : CT E yX8_chance cX8_chance 8 (some .long) 3 [.ref (eA E 39), .int a1, .int a2, .int a3] S (some (.long ro)) S :=
  CT_of (by decide) (Nat.le_of_ble_eq_true rfl) (fun X hF => t8_chance hF h rfl)
def f8_allChances_L5 (N : Nat) (v1 : Int32) (v2 : Int32) (v3 : Int64) (v5 : Int32) (S : Mem) : Option ((Int64 × Int32) ⊕ (Int64)) :=
if (13 : Int32) ≤ v5 then
some (.inr (v3))
else
bnp (f5_get N 46 13 v5 S) fun r1 =>
bnp (f8_chance N v5 v1 v2 S) fun r2 =>
lt_ (v3 + (r1.toInt64 * r2)) fun x3 =>
lt_ (v5 + (1 : Int32)) fun x4 =>
some (.inl (x3, x4))
def f8_allChances_b40 (N : Nat) (v3 : Int64) (S : Mem) : Option Int64 :=
some (v3)
def f8_allChances (N : Nat) (a1 : Int32) (a2 : Int32) (S : Mem) : Option Int64 :=
bnp (lp N (fun s => f8_allChances_L5 N a1 a2 s.1 s.2 S) ((0 : Int64), (0 : Int32))) fun z5 =>
f8_allChances_b40 N z5 S
set_option maxHeartbeats 1000000 in
theorem t8_allChances_L5 {E : En} {X : Cx} {Q : State → Prop} {N : Nat} {v1 : Int32} {v2 : Int32} {v3 : Int64} {v5 : Int32} {S : Mem} {o : ((Int64 × Int32) ⊕ (Int64))} (hF : Fx E X cX8_allChances RX8 6 (some .long) 4) (h : f8_allChances_L5 N v1 v2 v3 v5 S = some o) (hC : Sum.elim (fun (s : (Int64 × Int32)) => J E X Q S 5 [(0, .ref (eA E 39)), (1, .int v1), (2, .int v2), (3, .long s.1), (5, .int s.2)] []) (fun (x : (Int64)) => J E X Q S 40 [(3, .long x)] []) o) : J E X Q S 5 [(0, .ref (eA E 39)), (1, .int v1), (2, .int v2), (3, .long v3), (5, .int v5)] [] := by
  unfold f8_allChances_L5 at h
  refine j_iload hF 4 rfl dX8_allChances_5 ?_
  refine j_bipush (v := (13 : Int32)) hF (by decide) dX8_allChances_7 ?_
  refine j_icmp_ge (tgt := 40) hF h (by decide) dX8_allChances_9 (fun h => ?_) (fun h => ?_)
  · obtain rfl := ret1 h
    refine j_sub (lv' := [(3, .long v3)]) hF [3] rfl ?_
    exact hC
  · refine j_lload_n hF rfl 3 rfl dX8_allChances_12 ?_
    refine j_aload_n hF rfl 0 rfl dX8_allChances_13 ?_
    refine gf8_5 hF (by decide) (s_39 E _) rfl bw_1_172 dX8_allChances_14 ?_
    refine j_iload hF 4 rfl dX8_allChances_17 ?_
    obtain ⟨r1, hr1, h⟩ := bnp_some h
    refine j_callV_i (As := [.int v5]) (st := [.long v3]) hF rfl mv_5_get (by decide) (s_46 E _) rfl bw_3_101 rfl (by decide) (Nat.le_of_ble_eq_true rfl) dX8_allChances_19 (c5_get (ra_46 E) hr1) ?_
    refine j_i2l hF dX8_allChances_22 ?_
    refine j_aload_n hF rfl 0 rfl dX8_allChances_23 ?_
    refine j_iload hF 4 rfl dX8_allChances_24 ?_
    refine j_iload_n hF rfl 1 rfl dX8_allChances_26 ?_
    refine j_iload_n hF rfl 2 rfl dX8_allChances_27 ?_
    obtain ⟨r2, hr2, h⟩ := bnp_some h
    refine j_callV_l (As := [.int v5, .int v1, .int v2]) (st := [.long r1.toInt64, .long v3]) hF rfl mv_8_chance (by decide) (s_39 E _) rfl bw_3_238 rfl (by decide) (Nat.le_of_ble_eq_true rfl) dX8_allChances_28 (c8_chance hr2) ?_
    refine j_lmul hF dX8_allChances_31 ?_
    refine j_ladd hF dX8_allChances_32 ?_
    refine j_lstore_n (lv' := [(3, .long (v3 + (r1.toInt64 * r2))), (0, .ref (eA E 39)), (1, .int v1), (2, .int v2), (5, .int v5)]) hF rfl (by decide) rfl dX8_allChances_33 ?_
    refine j_nmLL h (fun x3 h => ?_)
    refine j_iinc (v := (v5 + (1 : Int32))) (lv' := [(5, .int (v5 + (1 : Int32))), (3, .long x3), (0, .ref (eA E 39)), (1, .int v1), (2, .int v2)]) (q := 4) hF rfl (congrArg (fun z => v5 + z) (by decide)) (by decide) rfl dX8_allChances_34 ?_
    refine j_nmL h (fun x4 h => ?_)
    refine j_goto (tgt := 5) hF (by decide) dX8_allChances_37 ?_
    obtain rfl := ret1 h
    refine j_sub (lv' := [(0, .ref (eA E 39)), (1, .int v1), (2, .int v2), (3, .long x3), (5, .int x4)]) hF [2, 3, 4, 1, 0] rfl ?_
    exact hC
set_option maxHeartbeats 1000000 in
theorem t8_allChances_b40 {E : En} {X : Cx} {Q : State → Prop} {N : Nat} {v3 : Int64} {S : Mem} {o : Int64} (hF : Fx E X cX8_allChances RX8 6 (some .long) 4) (h : f8_allChances_b40 N v3 S = some o) (hC : Q = RQ E X (some (.long o)) S) : J E X Q S 40 [(3, .long v3)] [] := by
  unfold f8_allChances_b40 at h
  refine j_lload_n hF rfl 0 rfl dX8_allChances_40 ?_
  obtain rfl := ret1 h
  exact j_lret hF hC dX8_allChances_41
set_option maxHeartbeats 1000000 in
theorem t8_allChances {E : En} {X : Cx} {Q : State → Prop} {N : Nat} {a1 : Int32} {a2 : Int32} {S : Mem} {o : Int64} (hF : Fx E X cX8_allChances RX8 6 (some .long) 4) (h : f8_allChances N a1 a2 S = some o) (hC : Q = RQ E X (some (.long o)) S) : J E X Q S 0 [(0, .ref (eA E 39)), (1, .int a1), (2, .int a2)] [] := by
  unfold f8_allChances at h
  refine j_lconst (v := (0 : Int64)) hF (by decide) dX8_allChances_0 ?_
  refine j_lstore_n (lv' := [(3, .long (0 : Int64)), (0, .ref (eA E 39)), (1, .int a1), (2, .int a2)]) hF rfl (by decide) rfl dX8_allChances_1 ?_
  refine j_iconst (v := (0 : Int32)) hF (by decide) dX8_allChances_2 ?_
  refine j_istore (lv' := [(5, .int (0 : Int32)), (3, .long (0 : Int64)), (0, .ref (eA E 39)), (1, .int a1), (2, .int a2)]) hF (by decide) rfl dX8_allChances_3 ?_
  obtain ⟨z5, hz5, h⟩ := bnp_some h
  refine j_sub (lv' := [(0, .ref (eA E 39)), (1, .int a1), (2, .int a2), (3, .long (0 : Int64)), (5, .int (0 : Int32))]) hF [2, 3, 4, 1, 0] rfl ?_
  have hx : (fun (x : (Int64)) => J E X Q S 40 [(3, .long x)] []) z5 := by
    exact t8_allChances_b40 hF h hC
  exact lp_rule (Jh := fun (s : (Int64 × Int32)) => J E X Q S 5 [(0, .ref (eA E 39)), (1, .int a1), (2, .int a2), (3, .long s.1), (5, .int s.2)] []) (C := fun (x : (Int64)) => J E X Q S 40 [(3, .long x)] []) (fun s o h hC => t8_allChances_L5 hF h hC) N ((0 : Int64), (0 : Int32)) z5 hz5 hx
set_option maxHeartbeats 1000000 in
theorem c8_allChances {E : En} {N : Nat} {a1 : Int32} {a2 : Int32} {S : Mem} {ro : Int64} (h : f8_allChances N a1 a2 S = some ro) : CT E yX8_allChances cX8_allChances 6 (some .long) 4 [.ref (eA E 39), .int a1, .int a2] S (some (.long ro)) S :=
  CT_of (by decide) (Nat.le_of_ble_eq_true rfl) (fun X hF => t8_allChances hF h rfl)
def f8_chances_L41 (N : Nat) (v1 : Int32) (v2 : Int32) (v3 : Int32) (v4 : Int64) (v6 : Int32) (S : Mem) : Option ((Int64 × Int32) ⊕ (Int64)) :=
if (13 : Int32) ≤ v6 then
some (.inr (v4))
else
bnp (f5_get N 48 156 ((v1 * (13 : Int32)) + v6) S) fun r2 =>
bnp (f8_chance N v6 v2 v3 S) fun r3 =>
lt_ (v4 + (r2.toInt64 * r3)) fun x4 =>
lt_ (v6 + (1 : Int32)) fun x5 =>
some (.inl (x4, x5))
def f8_chances_b83 (N : Nat) (v4 : Int64) (S : Mem) : Option Int64 :=
some (v4)
def f8_chances (N : Nat) (a1 : Int32) (a2 : Int32) (a3 : Int32) (S : Mem) : Option Int64 :=
bnp (f0_laughOf_15 N a1 S) fun r1 =>
if r1 = (2 : Int32) then
bnp (lp N (fun s => f8_chances_L41 N a1 a2 a3 s.1 s.2 S) ((0 : Int64), (0 : Int32))) fun z6 =>
f8_chances_b83 N z6 S
else
bnp (f0_laughOf_15 N a1 S) fun r7 =>
if r7 = (1 : Int32) then
bnp (f8_allChances N a2 a3 S) fun r8 =>
some (r8)
else
some ((0 : Int64))
set_option maxHeartbeats 1000000 in
theorem t8_chances_L41 {E : En} {X : Cx} {Q : State → Prop} {N : Nat} {v1 : Int32} {v2 : Int32} {v3 : Int32} {v4 : Int64} {v6 : Int32} {S : Mem} {o : ((Int64 × Int32) ⊕ (Int64))} (hF : Fx E X cX8_chances RX8 7 (some .long) 5) (h : f8_chances_L41 N v1 v2 v3 v4 v6 S = some o) (hC : Sum.elim (fun (s : (Int64 × Int32)) => J E X Q S 41 [(0, .ref (eA E 39)), (1, .int v1), (2, .int v2), (3, .int v3), (4, .long s.1), (6, .int s.2)] []) (fun (x : (Int64)) => J E X Q S 83 [(4, .long x)] []) o) : J E X Q S 41 [(0, .ref (eA E 39)), (1, .int v1), (2, .int v2), (3, .int v3), (4, .long v4), (6, .int v6)] [] := by
  unfold f8_chances_L41 at h
  refine j_iload hF 5 rfl dX8_chances_41 ?_
  refine j_bipush (v := (13 : Int32)) hF (by decide) dX8_chances_43 ?_
  refine j_icmp_ge (tgt := 83) hF h (by decide) dX8_chances_45 (fun h => ?_) (fun h => ?_)
  · obtain rfl := ret1 h
    refine j_sub (lv' := [(4, .long v4)]) hF [4] rfl ?_
    exact hC
  · refine j_lload hF 4 rfl dX8_chances_48 ?_
    refine j_aload_n hF rfl 0 rfl dX8_chances_50 ?_
    refine gf8_6 hF (by decide) (s_39 E _) rfl bw_1_173 dX8_chances_51 ?_
    refine j_iload_n hF rfl 1 rfl dX8_chances_54 ?_
    refine j_bipush (v := (13 : Int32)) hF (by decide) dX8_chances_55 ?_
    refine j_imul hF dX8_chances_57 ?_
    refine j_iload hF 5 rfl dX8_chances_58 ?_
    refine j_iadd hF dX8_chances_60 ?_
    obtain ⟨r2, hr2, h⟩ := bnp_some h
    refine j_callV_i (As := [.int ((v1 * (13 : Int32)) + v6)]) (st := [.long v4]) hF rfl mv_5_get (by decide) (s_48 E _) rfl bw_3_101 rfl (by decide) (Nat.le_of_ble_eq_true rfl) dX8_chances_61 (c5_get (ra_48 E) hr2) ?_
    refine j_i2l hF dX8_chances_64 ?_
    refine j_aload_n hF rfl 0 rfl dX8_chances_65 ?_
    refine j_iload hF 5 rfl dX8_chances_66 ?_
    refine j_iload_n hF rfl 2 rfl dX8_chances_68 ?_
    refine j_iload_n hF rfl 3 rfl dX8_chances_69 ?_
    obtain ⟨r3, hr3, h⟩ := bnp_some h
    refine j_callV_l (As := [.int v6, .int v2, .int v3]) (st := [.long r2.toInt64, .long v4]) hF rfl mv_8_chance (by decide) (s_39 E _) rfl bw_3_238 rfl (by decide) (Nat.le_of_ble_eq_true rfl) dX8_chances_70 (c8_chance hr3) ?_
    refine j_lmul hF dX8_chances_73 ?_
    refine j_ladd hF dX8_chances_74 ?_
    refine j_lstore (lv' := [(4, .long (v4 + (r2.toInt64 * r3))), (0, .ref (eA E 39)), (1, .int v1), (2, .int v2), (3, .int v3), (6, .int v6)]) hF (by decide) rfl dX8_chances_75 ?_
    refine j_nmLL h (fun x4 h => ?_)
    refine j_iinc (v := (v6 + (1 : Int32))) (lv' := [(6, .int (v6 + (1 : Int32))), (4, .long x4), (0, .ref (eA E 39)), (1, .int v1), (2, .int v2), (3, .int v3)]) (q := 5) hF rfl (congrArg (fun z => v6 + z) (by decide)) (by decide) rfl dX8_chances_77 ?_
    refine j_nmL h (fun x5 h => ?_)
    refine j_goto (tgt := 41) hF (by decide) dX8_chances_80 ?_
    obtain rfl := ret1 h
    refine j_sub (lv' := [(0, .ref (eA E 39)), (1, .int v1), (2, .int v2), (3, .int v3), (4, .long x4), (6, .int x5)]) hF [2, 3, 4, 5, 1, 0] rfl ?_
    exact hC
set_option maxHeartbeats 1000000 in
theorem t8_chances_b83 {E : En} {X : Cx} {Q : State → Prop} {N : Nat} {v4 : Int64} {S : Mem} {o : Int64} (hF : Fx E X cX8_chances RX8 7 (some .long) 5) (h : f8_chances_b83 N v4 S = some o) (hC : Q = RQ E X (some (.long o)) S) : J E X Q S 83 [(4, .long v4)] [] := by
  unfold f8_chances_b83 at h
  refine j_lload hF 0 rfl dX8_chances_83 ?_
  obtain rfl := ret1 h
  exact j_lret hF hC dX8_chances_85
set_option maxHeartbeats 1000000 in
theorem t8_chances {E : En} {X : Cx} {Q : State → Prop} {N : Nat} {a1 : Int32} {a2 : Int32} {a3 : Int32} {S : Mem} {o : Int64} (hF : Fx E X cX8_chances RX8 7 (some .long) 5) (h : f8_chances N a1 a2 a3 S = some o) (hC : Q = RQ E X (some (.long o)) S) : J E X Q S 0 [(0, .ref (eA E 39)), (1, .int a1), (2, .int a2), (3, .int a3)] [] := by
  unfold f8_chances at h
  refine j_aload_n hF rfl 0 rfl dX8_chances_0 ?_
  refine gf8_1 hF (by decide) (s_39 E _) rfl bw_1_168 dX8_chances_1 ?_
  refine j_iload_n hF rfl 1 rfl dX8_chances_4 ?_
  obtain ⟨r1, hr1, h⟩ := bnp_some h
  refine j_callV_i (As := [.int a1]) (st := []) hF rfl mv_0_laughOf (by decide) (s_15 E _) rfl bw_3_86 rfl (by decide) (Nat.le_of_ble_eq_true rfl) dX8_chances_5 (c0_laughOf_15 hr1) ?_
  refine j_iconst (v := (2 : Int32)) hF (by decide) dX8_chances_8 ?_
  refine j_icmp_eq (tgt := 35) hF h (by decide) dX8_chances_9 (fun h => ?_) (fun h => ?_)
  · refine j_lconst (v := (0 : Int64)) hF (by decide) dX8_chances_35 ?_
    refine j_lstore (lv' := [(4, .long (0 : Int64)), (0, .ref (eA E 39)), (1, .int a1), (2, .int a2), (3, .int a3)]) hF (by decide) rfl dX8_chances_36 ?_
    refine j_iconst (v := (0 : Int32)) hF (by decide) dX8_chances_38 ?_
    refine j_istore (lv' := [(6, .int (0 : Int32)), (4, .long (0 : Int64)), (0, .ref (eA E 39)), (1, .int a1), (2, .int a2), (3, .int a3)]) hF (by decide) rfl dX8_chances_39 ?_
    obtain ⟨z6, hz6, h⟩ := bnp_some h
    refine j_sub (lv' := [(0, .ref (eA E 39)), (1, .int a1), (2, .int a2), (3, .int a3), (4, .long (0 : Int64)), (6, .int (0 : Int32))]) hF [2, 3, 4, 5, 1, 0] rfl ?_
    have hx : (fun (x : (Int64)) => J E X Q S 83 [(4, .long x)] []) z6 := by
      exact t8_chances_b83 hF h hC
    exact lp_rule (Jh := fun (s : (Int64 × Int32)) => J E X Q S 41 [(0, .ref (eA E 39)), (1, .int a1), (2, .int a2), (3, .int a3), (4, .long s.1), (6, .int s.2)] []) (C := fun (x : (Int64)) => J E X Q S 83 [(4, .long x)] []) (fun s o h hC => t8_chances_L41 hF h hC) N ((0 : Int64), (0 : Int32)) z6 hz6 hx
  · refine j_aload_n hF rfl 0 rfl dX8_chances_12 ?_
    refine gf8_1 hF (by decide) (s_39 E _) rfl bw_1_168 dX8_chances_13 ?_
    refine j_iload_n hF rfl 1 rfl dX8_chances_16 ?_
    obtain ⟨r7, hr7, h⟩ := bnp_some h
    refine j_callV_i (As := [.int a1]) (st := []) hF rfl mv_0_laughOf (by decide) (s_15 E _) rfl bw_3_86 rfl (by decide) (Nat.le_of_ble_eq_true rfl) dX8_chances_17 (c0_laughOf_15 hr7) ?_
    refine j_iconst (v := (1 : Int32)) hF (by decide) dX8_chances_20 ?_
    refine j_icmp_ne (tgt := 33) hF h (by decide) dX8_chances_21 (fun h => ?_) (fun h => ?_)
    · refine j_lconst (v := (0 : Int64)) hF (by decide) dX8_chances_33 ?_
      obtain rfl := ret1 h
      exact j_lret hF hC dX8_chances_34
    · refine j_aload_n hF rfl 0 rfl dX8_chances_24 ?_
      refine j_iload_n hF rfl 2 rfl dX8_chances_25 ?_
      refine j_iload_n hF rfl 3 rfl dX8_chances_26 ?_
      obtain ⟨r8, hr8, h⟩ := bnp_some h
      refine j_callV_l (As := [.int a2, .int a3]) (st := []) hF rfl mv_8_allChances (by decide) (s_39 E _) rfl bw_3_234 rfl (by decide) (Nat.le_of_ble_eq_true rfl) dX8_chances_27 (c8_allChances hr8) ?_
      refine j_goto (tgt := 34) hF (by decide) dX8_chances_30 ?_
      obtain rfl := ret1 h
      exact j_lret hF hC dX8_chances_34
set_option maxHeartbeats 1000000 in
theorem c8_chances {E : En} {N : Nat} {a1 : Int32} {a2 : Int32} {a3 : Int32} {S : Mem} {ro : Int64} (h : f8_chances N a1 a2 a3 S = some ro) : CT E yX8_chances cX8_chances 7 (some .long) 5 [.ref (eA E 39), .int a1, .int a2, .int a3] S (some (.long ro)) S :=
  CT_of (by decide) (Nat.le_of_ble_eq_true rfl) (fun X hF => t8_chances hF h rfl)
def f9_greatestDivisor_L9 (N : Nat) (v4 : Int64) (v6 : Int64) (v8 : Int32) (S : Mem) : Option ((Int64 × Int64 × Int32) ⊕ (Int64)) :=
if (100 : Int32) ≤ v8 then
some (.inr (v4))
else
if (lg_cmp v6 (0 : Int64)) = 0 then
some (.inr (v4))
else
if v6 = (0 : Int64) then none else
lt_ (v4 - v4 / v6 * v6) fun x1 =>
lt_ (v8 + (1 : Int32)) fun x2 =>
some (.inl (v6, x1, x2))
def f9_greatestDivisor_b44 (N : Nat) (v4 : Int64) (S : Mem) : Option Int64 :=
some (v4)
def f9_greatestDivisor (N : Nat) (a0 : Int64) (a2 : Int64) (S : Mem) : Option Int64 :=
bnp (lp N (fun s => f9_greatestDivisor_L9 N s.1 s.2.1 s.2.2 S) (a0, a2, (0 : Int32))) fun z3 =>
f9_greatestDivisor_b44 N z3 S
set_option maxHeartbeats 1000000 in
theorem t9_greatestDivisor_L9 {E : En} {X : Cx} {Q : State → Prop} {N : Nat} {v4 : Int64} {v6 : Int64} {v8 : Int32} {S : Mem} {o : ((Int64 × Int64 × Int32) ⊕ (Int64))} (hF : Fx E X cX9_greatestDivisor RX9 11 (some .long) 0) (h : f9_greatestDivisor_L9 N v4 v6 v8 S = some o) (hC : Sum.elim (fun (s : (Int64 × Int64 × Int32)) => J E X Q S 9 [(4, .long s.1), (6, .long s.2.1), (8, .int s.2.2)] []) (fun (x : (Int64)) => J E X Q S 44 [(4, .long x)] []) o) : J E X Q S 9 [(4, .long v4), (6, .long v6), (8, .int v8)] [] := by
  unfold f9_greatestDivisor_L9 at h
  refine j_iload hF 2 rfl dX9_greatestDivisor_9 ?_
  refine j_bipush (v := (100 : Int32)) hF (by decide) dX9_greatestDivisor_11 ?_
  refine j_icmp_ge (tgt := 44) hF h (by decide) dX9_greatestDivisor_13 (fun h => ?_) (fun h => ?_)
  · obtain rfl := ret1 h
    refine j_sub (lv' := [(4, .long v4)]) hF [0] rfl ?_
    exact hC
  · refine j_lload hF 1 rfl dX9_greatestDivisor_16 ?_
    refine j_lconst (v := (0 : Int64)) hF (by decide) dX9_greatestDivisor_18 ?_
    refine j_lcmp hF dX9_greatestDivisor_19 ?_
    refine j_if_eq (tgt := 44) hF h (by decide) dX9_greatestDivisor_20 (fun h => ?_) (fun h => ?_)
    · obtain rfl := ret1 h
      refine j_sub (lv' := [(4, .long v4)]) hF [0] rfl ?_
      exact hC
    · refine j_lload hF 0 rfl dX9_greatestDivisor_23 ?_
      refine j_lload hF 1 rfl dX9_greatestDivisor_25 ?_
      refine j_lrem hF h dX9_greatestDivisor_27 (fun h => ?_)
      refine j_lstore (lv' := [(9, .long (v4 - v4 / v6 * v6)), (4, .long v4), (6, .long v6), (8, .int v8)]) hF (by decide) rfl dX9_greatestDivisor_28 ?_
      refine j_nmLL h (fun x1 h => ?_)
      refine j_lload hF 2 rfl dX9_greatestDivisor_30 ?_
      refine j_lstore (lv' := [(4, .long v6), (9, .long x1), (6, .long v6), (8, .int v8)]) hF (by decide) rfl dX9_greatestDivisor_32 ?_
      refine j_lload hF 1 rfl dX9_greatestDivisor_34 ?_
      refine j_lstore (lv' := [(6, .long x1), (4, .long v6), (9, .long x1), (8, .int v8)]) hF (by decide) rfl dX9_greatestDivisor_36 ?_
      refine j_iinc (v := (v8 + (1 : Int32))) (lv' := [(8, .int (v8 + (1 : Int32))), (6, .long x1), (4, .long v6), (9, .long x1)]) (q := 3) hF rfl (congrArg (fun z => v8 + z) (by decide)) (by decide) rfl dX9_greatestDivisor_38 ?_
      refine j_nmL h (fun x2 h => ?_)
      refine j_goto (tgt := 9) hF (by decide) dX9_greatestDivisor_41 ?_
      obtain rfl := ret1 h
      refine j_sub (lv' := [(4, .long v6), (6, .long x1), (8, .int x2)]) hF [2, 1, 0] rfl ?_
      exact hC
set_option maxHeartbeats 1000000 in
theorem t9_greatestDivisor_b44 {E : En} {X : Cx} {Q : State → Prop} {N : Nat} {v4 : Int64} {S : Mem} {o : Int64} (hF : Fx E X cX9_greatestDivisor RX9 11 (some .long) 0) (h : f9_greatestDivisor_b44 N v4 S = some o) (hC : Q = RQ E X (some (.long o)) S) : J E X Q S 44 [(4, .long v4)] [] := by
  unfold f9_greatestDivisor_b44 at h
  refine j_lload hF 0 rfl dX9_greatestDivisor_44 ?_
  obtain rfl := ret1 h
  exact j_lret hF hC dX9_greatestDivisor_46
set_option maxHeartbeats 1000000 in
theorem t9_greatestDivisor {E : En} {X : Cx} {Q : State → Prop} {N : Nat} {a0 : Int64} {a2 : Int64} {S : Mem} {o : Int64} (hF : Fx E X cX9_greatestDivisor RX9 11 (some .long) 0) (h : f9_greatestDivisor N a0 a2 S = some o) (hC : Q = RQ E X (some (.long o)) S) : J E X Q S 0 [(0, .long a0), (2, .long a2)] [] := by
  unfold f9_greatestDivisor at h
  refine j_lload_n hF rfl 0 rfl dX9_greatestDivisor_0 ?_
  refine j_lstore (lv' := [(4, .long a0), (0, .long a0), (2, .long a2)]) hF (by decide) rfl dX9_greatestDivisor_1 ?_
  refine j_lload_n hF rfl 2 rfl dX9_greatestDivisor_3 ?_
  refine j_lstore (lv' := [(6, .long a2), (4, .long a0), (0, .long a0), (2, .long a2)]) hF (by decide) rfl dX9_greatestDivisor_4 ?_
  refine j_iconst (v := (0 : Int32)) hF (by decide) dX9_greatestDivisor_6 ?_
  refine j_istore (lv' := [(8, .int (0 : Int32)), (6, .long a2), (4, .long a0), (0, .long a0), (2, .long a2)]) hF (by decide) rfl dX9_greatestDivisor_7 ?_
  obtain ⟨z3, hz3, h⟩ := bnp_some h
  refine j_sub (lv' := [(4, .long a0), (6, .long a2), (8, .int (0 : Int32))]) hF [2, 1, 0] rfl ?_
  have hx : (fun (x : (Int64)) => J E X Q S 44 [(4, .long x)] []) z3 := by
    exact t9_greatestDivisor_b44 hF h hC
  exact lp_rule (Jh := fun (s : (Int64 × Int64 × Int32)) => J E X Q S 9 [(4, .long s.1), (6, .long s.2.1), (8, .int s.2.2)] []) (C := fun (x : (Int64)) => J E X Q S 44 [(4, .long x)] []) (fun s o h hC => t9_greatestDivisor_L9 hF h hC) N (a0, a2, (0 : Int32)) z3 hz3 hx
set_option maxHeartbeats 1000000 in
theorem c9_greatestDivisor {E : En} {N : Nat} {a0 : Int64} {a2 : Int64} {S : Mem} {ro : Int64} (h : f9_greatestDivisor N a0 a2 S = some ro) : CT E yX9_greatestDivisor cX9_greatestDivisor 11 (some .long) 0 [.long a0, .long a2] S (some (.long ro)) S :=
  CT_of (by decide) (Nat.le_of_ble_eq_true rfl) (fun X hF => t9_greatestDivisor hF h rfl)
def f9_odds (N : Nat) (a1 : Int32) (a2 : Int32) (a3 : Int32) (a4 : Int32) (S : Mem) : Option (Int64 × Mem) :=
bnp (f9_isLine N a1 S) fun r1 =>
if r1 = 0 then
some (((-1 : Int64), S))
else
bnp (f9_isBetween N a3 (1 : Int32) (9 : Int32) S) fun r2 =>
if r2 = 0 then
some (((-1 : Int64), S))
else
bnp (f9_isBetween N a2 (1 : Int32) (a3 - (1 : Int32)) S) fun r3 =>
if r3 = 0 then
some (((-1 : Int64), S))
else
bnp (f9_isBetween N a4 (0 : Int32) (1 : Int32) S) fun r4 =>
if r4 = 0 then
some (((-1 : Int64), S))
else
bnd (f9_known N S) fun r5 S6 =>
bnp (f8_left N S6) fun r7 =>
if r7 = 0 then
some (((-2 : Int64), S6))
else
bnp (f8_chances N a1 a2 a3 S6) fun r8 =>
bnp (f8_allChances N a2 a3 S6) fun r9 =>
bnp (f9_greatestDivisor N r8 r9 S6) fun r10 =>
if 0 ≤ (lg_cmp r10 (1 : Int64)) then
if a4 = 0 then
if r10 = (0 : Int64) then none else
some (((r8 / r10), S6))
else
if r10 = (0 : Int64) then none else
some (((r9 / r10), S6))
else
some (((-2 : Int64), S6))
set_option maxHeartbeats 1000000 in
theorem t9_odds {E : En} {X : Cx} {Q : State → Prop} {N : Nat} {a1 : Int32} {a2 : Int32} {a3 : Int32} {a4 : Int32} {S : Mem} {o : (Int64 × Mem)} (hF : Fx E X cX9_odds RX9 11 (some .long) 6) (h : f9_odds N a1 a2 a3 a4 S = some o) (hC : Q = RQ E X (some (.long o.1)) o.2) : J E X Q S 0 [(0, .ref (eA E 0)), (1, .int a1), (2, .int a2), (3, .int a3), (4, .int a4)] [] := by
  unfold f9_odds at h
  refine j_aload_n hF rfl 0 rfl dX9_odds_0 ?_
  refine j_iload_n hF rfl 1 rfl dX9_odds_1 ?_
  obtain ⟨r1, hr1, h⟩ := bnp_some h
  refine j_callV_i (As := [.int a1]) (st := []) hF rfl mv_9_isLine (by decide) (s_0 E _) rfl bw_3_35 rfl (by decide) (Nat.le_of_ble_eq_true rfl) dX9_odds_2 (c9_isLine hr1) ?_
  refine j_if_eq (tgt := 39) hF h (by decide) dX9_odds_5 (fun h => ?_) (fun h => ?_)
  · refine j_ldc2 (v := (-1 : Int64)) hF bw_3_228 dX9_odds_39 ?_
    obtain rfl := ret1 h
    exact j_lret hF hC dX9_odds_42
  · refine j_iload_n hF rfl 3 rfl dX9_odds_8 ?_
    refine j_iconst (v := (1 : Int32)) hF (by decide) dX9_odds_9 ?_
    refine j_bipush (v := (9 : Int32)) hF (by decide) dX9_odds_10 ?_
    obtain ⟨r2, hr2, h⟩ := bnp_some h
    refine j_callS_i (As := [.int a3, .int (1 : Int32), .int (9 : Int32)]) (st := []) hF rfl mv_9_isBetween bw_2_219 rfl (by decide) (Nat.le_of_ble_eq_true rfl) dX9_odds_12 (c9_isBetween hr2) ?_
    refine j_if_eq (tgt := 39) hF h (by decide) dX9_odds_15 (fun h => ?_) (fun h => ?_)
    · refine j_ldc2 (v := (-1 : Int64)) hF bw_3_228 dX9_odds_39 ?_
      obtain rfl := ret1 h
      exact j_lret hF hC dX9_odds_42
    · refine j_iload_n hF rfl 2 rfl dX9_odds_18 ?_
      refine j_iconst (v := (1 : Int32)) hF (by decide) dX9_odds_19 ?_
      refine j_iload_n hF rfl 3 rfl dX9_odds_20 ?_
      refine j_iconst (v := (1 : Int32)) hF (by decide) dX9_odds_21 ?_
      refine j_isub hF dX9_odds_22 ?_
      obtain ⟨r3, hr3, h⟩ := bnp_some h
      refine j_callS_i (As := [.int a2, .int (1 : Int32), .int (a3 - (1 : Int32))]) (st := []) hF rfl mv_9_isBetween bw_2_219 rfl (by decide) (Nat.le_of_ble_eq_true rfl) dX9_odds_23 (c9_isBetween hr3) ?_
      refine j_if_eq (tgt := 39) hF h (by decide) dX9_odds_26 (fun h => ?_) (fun h => ?_)
      · refine j_ldc2 (v := (-1 : Int64)) hF bw_3_228 dX9_odds_39 ?_
        obtain rfl := ret1 h
        exact j_lret hF hC dX9_odds_42
      · refine j_iload hF 4 rfl dX9_odds_29 ?_
        refine j_iconst (v := (0 : Int32)) hF (by decide) dX9_odds_31 ?_
        refine j_iconst (v := (1 : Int32)) hF (by decide) dX9_odds_32 ?_
        obtain ⟨r4, hr4, h⟩ := bnp_some h
        refine j_callS_i (As := [.int a4, .int (0 : Int32), .int (1 : Int32)]) (st := []) hF rfl mv_9_isBetween bw_2_219 rfl (by decide) (Nat.le_of_ble_eq_true rfl) dX9_odds_33 (c9_isBetween hr4) ?_
        refine j_if_ne (tgt := 43) hF h (by decide) dX9_odds_36 (fun h => ?_) (fun h => ?_)
        · refine j_aload_n hF rfl 0 rfl dX9_odds_43 ?_
          obtain ⟨r5, S6, hr5, h⟩ := bnd_some h
          refine j_callV_r (As := []) (st := []) hF rfl mv_9_known (by decide) (s_0 E _) rfl bw_3_64 rfl (by decide) (Nat.le_of_ble_eq_true rfl) dX9_odds_44 (c9_known hr5) ?_
          obtain ⟨r7, hr7, h⟩ := bnp_some h
          refine j_callV_i (As := []) (st := []) hF rfl mv_8_left (by decide) (s_39 E _) rfl bw_3_132 rfl (by decide) (Nat.le_of_ble_eq_true rfl) dX9_odds_47 (c8_left hr7) ?_
          refine j_if_ne (tgt := 57) hF h (by decide) dX9_odds_50 (fun h => ?_) (fun h => ?_)
          · refine j_aload_n hF rfl 0 rfl dX9_odds_57 ?_
            refine gf9_7 hF (by decide) (s_0 E _) rfl bw_1_232 dX9_odds_58 ?_
            refine j_iload_n hF rfl 1 rfl dX9_odds_61 ?_
            refine j_iload_n hF rfl 2 rfl dX9_odds_62 ?_
            refine j_iload_n hF rfl 3 rfl dX9_odds_63 ?_
            obtain ⟨r8, hr8, h⟩ := bnp_some h
            refine j_callV_l (As := [.int a1, .int a2, .int a3]) (st := []) hF rfl mv_8_chances (by decide) (s_39 E _) rfl bw_3_230 rfl (by decide) (Nat.le_of_ble_eq_true rfl) dX9_odds_64 (c8_chances hr8) ?_
            refine j_lstore (lv' := [(5, .long r8), (0, .ref (eA E 0)), (1, .int a1), (2, .int a2), (3, .int a3), (4, .int a4)]) hF (by decide) rfl dX9_odds_67 ?_
            refine j_aload_n hF rfl 1 rfl dX9_odds_69 ?_
            refine gf9_7 hF (by decide) (s_0 E _) rfl bw_1_232 dX9_odds_70 ?_
            refine j_iload_n hF rfl 3 rfl dX9_odds_73 ?_
            refine j_iload_n hF rfl 4 rfl dX9_odds_74 ?_
            obtain ⟨r9, hr9, h⟩ := bnp_some h
            refine j_callV_l (As := [.int a2, .int a3]) (st := []) hF rfl mv_8_allChances (by decide) (s_39 E _) rfl bw_4_7 rfl (by decide) (Nat.le_of_ble_eq_true rfl) dX9_odds_75 (c8_allChances hr9) ?_
            refine j_lstore (lv' := [(7, .long r9), (5, .long r8), (0, .ref (eA E 0)), (1, .int a1), (2, .int a2), (3, .int a3), (4, .int a4)]) hF (by decide) rfl dX9_odds_78 ?_
            refine j_lload hF 1 rfl dX9_odds_80 ?_
            refine j_lload hF 0 rfl dX9_odds_82 ?_
            obtain ⟨r10, hr10, h⟩ := bnp_some h
            refine j_callS_l (As := [.long r8, .long r9]) (st := []) hF rfl mv_9_greatestDivisor bw_4_8 rfl (by decide) (Nat.le_of_ble_eq_true rfl) dX9_odds_84 (c9_greatestDivisor hr10) ?_
            refine j_lstore (lv' := [(9, .long r10), (7, .long r9), (5, .long r8), (0, .ref (eA E 0)), (1, .int a1), (2, .int a2), (3, .int a3), (4, .int a4)]) hF (by decide) rfl dX9_odds_87 ?_
            refine j_lload hF 0 rfl dX9_odds_89 ?_
            refine j_lconst (v := (1 : Int64)) hF (by decide) dX9_odds_91 ?_
            refine j_lcmp hF dX9_odds_92 ?_
            refine j_if_ge (tgt := 100) hF h (by decide) dX9_odds_93 (fun h => ?_) (fun h => ?_)
            · refine j_iload hF 7 rfl dX9_odds_100 ?_
              refine j_if_ne (tgt := 110) hF h (by decide) dX9_odds_102 (fun h => ?_) (fun h => ?_)
              · refine j_lload hF 1 rfl dX9_odds_110 ?_
                refine j_lload hF 0 rfl dX9_odds_112 ?_
                refine j_ldiv hF h dX9_odds_114 (fun h => ?_)
                obtain rfl := ret1 h
                exact j_lret hF hC dX9_odds_115
              · refine j_lload hF 2 rfl dX9_odds_105 ?_
                refine j_goto (tgt := 112) hF (by decide) dX9_odds_107 ?_
                refine j_lload hF 0 rfl dX9_odds_112 ?_
                refine j_ldiv hF h dX9_odds_114 (fun h => ?_)
                obtain rfl := ret1 h
                exact j_lret hF hC dX9_odds_115
            · refine j_ldc2 (v := (-2 : Int64)) hF bw_3_229 dX9_odds_96 ?_
              obtain rfl := ret1 h
              exact j_lret hF hC dX9_odds_99
          · refine j_ldc2 (v := (-2 : Int64)) hF bw_3_229 dX9_odds_53 ?_
            obtain rfl := ret1 h
            exact j_lret hF hC dX9_odds_56
        · refine j_ldc2 (v := (-1 : Int64)) hF bw_3_228 dX9_odds_39 ?_
          obtain rfl := ret1 h
          exact j_lret hF hC dX9_odds_42
set_option maxHeartbeats 1000000 in
theorem c9_odds {E : En} {N : Nat} {a1 : Int32} {a2 : Int32} {a3 : Int32} {a4 : Int32} {S So : Mem} {ro : Int64} (h : f9_odds N a1 a2 a3 a4 S = some (ro, So)) : CT E yX9_odds cX9_odds 11 (some .long) 6 [.ref (eA E 0), .int a1, .int a2, .int a3, .int a4] S (some (.long ro)) So :=
  CT_of (by decide) (Nat.le_of_ble_eq_true rfl) (fun X hF => t9_odds hF h rfl)
def f6_sidesOf_10_b96 (N : Nat) (v1 : Int32) (v2 : Int32) (v3 : Int32) (v4 : Int32) (v5 : Int32) (S : Mem) : Option ((Int32 × Int32 × Int32) ⊕ (Int32 × Int32)) :=
lt_ (v5 + (1 : Int32)) fun x6 =>
some (.inl (v2, v3, x6))
def f6_sidesOf_10_b71 (N : Nat) (v1 : Int32) (v2 : Int32) (v3 : Int32) (v4 : Int32) (v5 : Int32) (v6 : Int32) (w0 : Int32) (S : Mem) : Option ((Int32 × Int32 × Int32) ⊕ (Int32 × Int32)) :=
if w0 = 0 then
f6_sidesOf_10_b96 N v1 v2 v3 v4 v5 S
else
if v2 ≤ v6 then
f6_sidesOf_10_b96 N v1 v2 v3 v4 v5 S
else
lt_ ((v4 * (8 : Int32)) + v5) fun x7 =>
f6_sidesOf_10_b96 N v1 v6 x7 v4 v5 S
def f6_sidesOf_10_b70 (N : Nat) (v1 : Int32) (v2 : Int32) (v3 : Int32) (v4 : Int32) (v5 : Int32) (v6 : Int32) (S : Mem) : Option ((Int32 × Int32 × Int32) ⊕ (Int32 × Int32)) :=
f6_sidesOf_10_b71 N v1 v2 v3 v4 v5 v6 (0 : Int32) S
def f6_sidesOf_10_L19 (N : Nat) (v1 : Int32) (v4 : Int32) (v2 : Int32) (v3 : Int32) (v5 : Int32) (S : Mem) : Option ((Int32 × Int32 × Int32) ⊕ (Int32 × Int32)) :=
bnp (f6_sets_10 N S) fun r2 =>
if r2 ≤ v5 then
some (.inr (v2, v3))
else
bnp (fJ6_bitCount N v4 S) fun r3 =>
bnp (fJ6_bitCount N v5 S) fun r4 =>
lt_ (r3 + r4) fun x5 =>
if (v4 &&& v5) = 0 then
bnp (f6_loadOf_10 N v4 S) fun r8 =>
bnp (f6_loadOf_10 N v5 S) fun r9 =>
if (r8 - r9) = v1 then
f6_sidesOf_10_b71 N v1 v2 v3 v4 v5 x5 (1 : Int32) S
else
f6_sidesOf_10_b70 N v1 v2 v3 v4 v5 x5 S
else
f6_sidesOf_10_b70 N v1 v2 v3 v4 v5 x5 S
def f6_sidesOf_10_b102 (N : Nat) (v1 : Int32) (v2 : Int32) (v3 : Int32) (v4 : Int32) (S : Mem) : Option ((Int32 × Int32 × Int32) ⊕ (Int32)) :=
lt_ (v4 + (1 : Int32)) fun x11 =>
some (.inl (v2, v3, x11))
def f6_sidesOf_10_L7 (N : Nat) (v1 : Int32) (v2 : Int32) (v3 : Int32) (v4 : Int32) (S : Mem) : Option ((Int32 × Int32 × Int32) ⊕ (Int32)) :=
bnp (f6_sets_10 N S) fun r1 =>
if r1 ≤ v4 then
some (.inr (v3))
else
bnp (lp N (fun s => f6_sidesOf_10_L19 N v1 v4 s.1 s.2.1 s.2.2 S) (v2, v3, (0 : Int32))) fun z10 =>
f6_sidesOf_10_b102 N v1 z10.1 z10.2 v4 S
def f6_sidesOf_10_b108 (N : Nat) (v3 : Int32) (S : Mem) : Option Int32 :=
some (v3)
def f6_sidesOf_10 (N : Nat) (a1 : Int32) (S : Mem) : Option Int32 :=
bnp (lp N (fun s => f6_sidesOf_10_L7 N a1 s.1 s.2.1 s.2.2 S) ((4 : Int32), (-1 : Int32), (0 : Int32))) fun z12 =>
f6_sidesOf_10_b108 N z12 S
set_option maxHeartbeats 1000000 in
theorem t6_sidesOf_10_b96 {E : En} {X : Cx} {Q : State → Prop} {N : Nat} {v1 : Int32} {v2 : Int32} {v3 : Int32} {v4 : Int32} {v5 : Int32} {S : Mem} {o : ((Int32 × Int32 × Int32) ⊕ (Int32 × Int32))} (hF : Fx E X cX6_sidesOf RX6 8 (some .int) 2) (h : f6_sidesOf_10_b96 N v1 v2 v3 v4 v5 S = some o) (hC : Sum.elim (fun (s : (Int32 × Int32 × Int32)) => J E X Q S 19 [(0, .ref (eA E 10)), (1, .int v1), (2, .int s.1), (3, .int s.2.1), (4, .int v4), (5, .int s.2.2)] []) (fun (x : (Int32 × Int32)) => J E X Q S 102 [(0, .ref (eA E 10)), (1, .int v1), (2, .int x.1), (3, .int x.2), (4, .int v4)] []) o) : J E X Q S 96 [(0, .ref (eA E 10)), (1, .int v1), (2, .int v2), (3, .int v3), (4, .int v4), (5, .int v5)] [] := by
  unfold f6_sidesOf_10_b96 at h
  refine j_iinc (v := (v5 + (1 : Int32))) (lv' := [(5, .int (v5 + (1 : Int32))), (0, .ref (eA E 10)), (1, .int v1), (2, .int v2), (3, .int v3), (4, .int v4)]) (q := 5) hF rfl (congrArg (fun z => v5 + z) (by decide)) (by decide) rfl dX6_sidesOf_96 ?_
  refine j_nmL h (fun x6 h => ?_)
  refine j_goto (tgt := 19) hF (by decide) dX6_sidesOf_99 ?_
  obtain rfl := ret1 h
  refine j_sub (lv' := [(0, .ref (eA E 10)), (1, .int v1), (2, .int v2), (3, .int v3), (4, .int v4), (5, .int x6)]) hF [1, 2, 3, 4, 5, 0] rfl ?_
  exact hC
set_option maxHeartbeats 1000000 in
theorem t6_sidesOf_10_b71 {E : En} {X : Cx} {Q : State → Prop} {N : Nat} {v1 : Int32} {v2 : Int32} {v3 : Int32} {v4 : Int32} {v5 : Int32} {v6 : Int32} {w0 : Int32} {S : Mem} {o : ((Int32 × Int32 × Int32) ⊕ (Int32 × Int32))} (hF : Fx E X cX6_sidesOf RX6 8 (some .int) 2) (h : f6_sidesOf_10_b71 N v1 v2 v3 v4 v5 v6 w0 S = some o) (hC : Sum.elim (fun (s : (Int32 × Int32 × Int32)) => J E X Q S 19 [(0, .ref (eA E 10)), (1, .int v1), (2, .int s.1), (3, .int s.2.1), (4, .int v4), (5, .int s.2.2)] []) (fun (x : (Int32 × Int32)) => J E X Q S 102 [(0, .ref (eA E 10)), (1, .int v1), (2, .int x.1), (3, .int x.2), (4, .int v4)] []) o) : J E X Q S 71 [(0, .ref (eA E 10)), (1, .int v1), (2, .int v2), (3, .int v3), (4, .int v4), (5, .int v5), (6, .int v6)] [.int w0] := by
  unfold f6_sidesOf_10_b71 at h
  refine j_istore (lv' := [(7, .int w0), (0, .ref (eA E 10)), (1, .int v1), (2, .int v2), (3, .int v3), (4, .int v4), (5, .int v5), (6, .int v6)]) hF (by decide) rfl dX6_sidesOf_71 ?_
  refine j_iload hF 0 rfl dX6_sidesOf_73 ?_
  refine j_if_eq (tgt := 96) hF h (by decide) dX6_sidesOf_75 (fun h => ?_) (fun h => ?_)
  · refine j_sub (lv' := [(0, .ref (eA E 10)), (1, .int v1), (2, .int v2), (3, .int v3), (4, .int v4), (5, .int v5)]) hF [1, 2, 3, 4, 5, 6] rfl ?_
    exact t6_sidesOf_10_b96 hF h hC
  · refine j_iload hF 7 rfl dX6_sidesOf_78 ?_
    refine j_iload_n hF rfl 3 rfl dX6_sidesOf_80 ?_
    refine j_icmp_ge (tgt := 96) hF h (by decide) dX6_sidesOf_81 (fun h => ?_) (fun h => ?_)
    · refine j_sub (lv' := [(0, .ref (eA E 10)), (1, .int v1), (2, .int v2), (3, .int v3), (4, .int v4), (5, .int v5)]) hF [1, 2, 3, 4, 5, 6] rfl ?_
      exact t6_sidesOf_10_b96 hF h hC
    · refine j_iload hF 7 rfl dX6_sidesOf_84 ?_
      refine j_istore_n (lv' := [(2, .int v6), (7, .int w0), (0, .ref (eA E 10)), (1, .int v1), (3, .int v3), (4, .int v4), (5, .int v5), (6, .int v6)]) hF rfl (by decide) rfl dX6_sidesOf_86 ?_
      refine j_iload hF 5 rfl dX6_sidesOf_87 ?_
      refine j_bipush (v := (8 : Int32)) hF (by decide) dX6_sidesOf_89 ?_
      refine j_imul hF dX6_sidesOf_91 ?_
      refine j_iload hF 6 rfl dX6_sidesOf_92 ?_
      refine j_iadd hF dX6_sidesOf_94 ?_
      refine j_istore_n (lv' := [(3, .int ((v4 * (8 : Int32)) + v5)), (2, .int v6), (7, .int w0), (0, .ref (eA E 10)), (1, .int v1), (4, .int v4), (5, .int v5), (6, .int v6)]) hF rfl (by decide) rfl dX6_sidesOf_95 ?_
      refine j_nmL h (fun x7 h => ?_)
      refine j_sub (lv' := [(0, .ref (eA E 10)), (1, .int v1), (2, .int v6), (3, .int x7), (4, .int v4), (5, .int v5)]) hF [3, 4, 1, 0, 5, 6] rfl ?_
      exact t6_sidesOf_10_b96 hF h hC
set_option maxHeartbeats 1000000 in
theorem t6_sidesOf_10_b70 {E : En} {X : Cx} {Q : State → Prop} {N : Nat} {v1 : Int32} {v2 : Int32} {v3 : Int32} {v4 : Int32} {v5 : Int32} {v6 : Int32} {S : Mem} {o : ((Int32 × Int32 × Int32) ⊕ (Int32 × Int32))} (hF : Fx E X cX6_sidesOf RX6 8 (some .int) 2) (h : f6_sidesOf_10_b70 N v1 v2 v3 v4 v5 v6 S = some o) (hC : Sum.elim (fun (s : (Int32 × Int32 × Int32)) => J E X Q S 19 [(0, .ref (eA E 10)), (1, .int v1), (2, .int s.1), (3, .int s.2.1), (4, .int v4), (5, .int s.2.2)] []) (fun (x : (Int32 × Int32)) => J E X Q S 102 [(0, .ref (eA E 10)), (1, .int v1), (2, .int x.1), (3, .int x.2), (4, .int v4)] []) o) : J E X Q S 70 [(0, .ref (eA E 10)), (1, .int v1), (2, .int v2), (3, .int v3), (4, .int v4), (5, .int v5), (6, .int v6)] [] := by
  unfold f6_sidesOf_10_b70 at h
  refine j_iconst (v := (0 : Int32)) hF (by decide) dX6_sidesOf_70 ?_
  exact t6_sidesOf_10_b71 hF h hC
set_option maxHeartbeats 1000000 in
theorem t6_sidesOf_10_L19 {E : En} {X : Cx} {Q : State → Prop} {N : Nat} {v1 : Int32} {v4 : Int32} {v2 : Int32} {v3 : Int32} {v5 : Int32} {S : Mem} {o : ((Int32 × Int32 × Int32) ⊕ (Int32 × Int32))} (hF : Fx E X cX6_sidesOf RX6 8 (some .int) 2) (h : f6_sidesOf_10_L19 N v1 v4 v2 v3 v5 S = some o) (hC : Sum.elim (fun (s : (Int32 × Int32 × Int32)) => J E X Q S 19 [(0, .ref (eA E 10)), (1, .int v1), (2, .int s.1), (3, .int s.2.1), (4, .int v4), (5, .int s.2.2)] []) (fun (x : (Int32 × Int32)) => J E X Q S 102 [(0, .ref (eA E 10)), (1, .int v1), (2, .int x.1), (3, .int x.2), (4, .int v4)] []) o) : J E X Q S 19 [(0, .ref (eA E 10)), (1, .int v1), (2, .int v2), (3, .int v3), (4, .int v4), (5, .int v5)] [] := by
  unfold f6_sidesOf_10_L19 at h
  refine j_iload hF 5 rfl dX6_sidesOf_19 ?_
  refine j_aload_n hF rfl 0 rfl dX6_sidesOf_21 ?_
  obtain ⟨r2, hr2, h⟩ := bnp_some h
  refine j_callV_i (As := []) (st := [.int v5]) hF rfl mv_6_sets (by decide) (s_10 E _) rfl bw_4_19 rfl (by decide) (Nat.le_of_ble_eq_true rfl) dX6_sidesOf_22 (c6_sets_10 hr2) ?_
  refine j_icmp_ge (tgt := 102) hF h (by decide) dX6_sidesOf_25 (fun h => ?_) (fun h => ?_)
  · obtain rfl := ret1 h
    refine j_sub (lv' := [(0, .ref (eA E 10)), (1, .int v1), (2, .int v2), (3, .int v3), (4, .int v4)]) hF [0, 1, 2, 3, 4] rfl ?_
    exact hC
  · refine j_iload hF 4 rfl dX6_sidesOf_28 ?_
    obtain ⟨r3, hr3, h⟩ := bnp_some h
    refine j_callS_i (As := [.int v4]) (st := []) hF rfl mv_J6_bitCount bw_4_20 rfl (by decide) (Nat.le_of_ble_eq_true rfl) dX6_sidesOf_30 (cJ6_bitCount hr3) ?_
    refine j_iload hF 5 rfl dX6_sidesOf_33 ?_
    obtain ⟨r4, hr4, h⟩ := bnp_some h
    refine j_callS_i (As := [.int v5]) (st := [.int r3]) hF rfl mv_J6_bitCount bw_4_20 rfl (by decide) (Nat.le_of_ble_eq_true rfl) dX6_sidesOf_35 (cJ6_bitCount hr4) ?_
    refine j_iadd hF dX6_sidesOf_38 ?_
    refine j_istore (lv' := [(6, .int (r3 + r4)), (0, .ref (eA E 10)), (1, .int v1), (2, .int v2), (3, .int v3), (4, .int v4), (5, .int v5)]) hF (by decide) rfl dX6_sidesOf_39 ?_
    refine j_nmL h (fun x5 h => ?_)
    refine j_iload hF 5 rfl dX6_sidesOf_41 ?_
    refine j_iload hF 6 rfl dX6_sidesOf_43 ?_
    refine j_iand hF dX6_sidesOf_45 ?_
    refine j_if_ne (tgt := 70) hF h (by decide) dX6_sidesOf_46 (fun h => ?_) (fun h => ?_)
    · refine j_sub (lv' := [(0, .ref (eA E 10)), (1, .int v1), (2, .int v2), (3, .int v3), (4, .int v4), (5, .int v5), (6, .int x5)]) hF [1, 2, 3, 4, 5, 6, 0] rfl ?_
      exact t6_sidesOf_10_b70 hF h hC
    · refine j_aload_n hF rfl 1 rfl dX6_sidesOf_49 ?_
      refine j_iload hF 5 rfl dX6_sidesOf_50 ?_
      obtain ⟨r8, hr8, h⟩ := bnp_some h
      refine j_callV_i (As := [.int v4]) (st := []) hF rfl mv_6_loadOf (by decide) (s_10 E _) rfl bw_4_21 rfl (by decide) (Nat.le_of_ble_eq_true rfl) dX6_sidesOf_52 (c6_loadOf_10 hr8) ?_
      refine j_aload_n hF rfl 1 rfl dX6_sidesOf_55 ?_
      refine j_iload hF 6 rfl dX6_sidesOf_56 ?_
      obtain ⟨r9, hr9, h⟩ := bnp_some h
      refine j_callV_i (As := [.int v5]) (st := [.int r8]) hF rfl mv_6_loadOf (by decide) (s_10 E _) rfl bw_4_21 rfl (by decide) (Nat.le_of_ble_eq_true rfl) dX6_sidesOf_58 (c6_loadOf_10 hr9) ?_
      refine j_isub hF dX6_sidesOf_61 ?_
      refine j_iload_n hF rfl 2 rfl dX6_sidesOf_62 ?_
      refine j_icmp_ne (tgt := 70) hF h (by decide) dX6_sidesOf_63 (fun h => ?_) (fun h => ?_)
      · refine j_sub (lv' := [(0, .ref (eA E 10)), (1, .int v1), (2, .int v2), (3, .int v3), (4, .int v4), (5, .int v5), (6, .int x5)]) hF [1, 2, 3, 4, 5, 6, 0] rfl ?_
        exact t6_sidesOf_10_b70 hF h hC
      · refine j_iconst (v := (1 : Int32)) hF (by decide) dX6_sidesOf_66 ?_
        refine j_goto (tgt := 71) hF (by decide) dX6_sidesOf_67 ?_
        refine j_sub (lv' := [(0, .ref (eA E 10)), (1, .int v1), (2, .int v2), (3, .int v3), (4, .int v4), (5, .int v5), (6, .int x5)]) hF [1, 2, 3, 4, 5, 6, 0] rfl ?_
        exact t6_sidesOf_10_b71 hF h hC
set_option maxHeartbeats 1000000 in
theorem t6_sidesOf_10_b102 {E : En} {X : Cx} {Q : State → Prop} {N : Nat} {v1 : Int32} {v2 : Int32} {v3 : Int32} {v4 : Int32} {S : Mem} {o : ((Int32 × Int32 × Int32) ⊕ (Int32))} (hF : Fx E X cX6_sidesOf RX6 8 (some .int) 2) (h : f6_sidesOf_10_b102 N v1 v2 v3 v4 S = some o) (hC : Sum.elim (fun (s : (Int32 × Int32 × Int32)) => J E X Q S 7 [(0, .ref (eA E 10)), (1, .int v1), (2, .int s.1), (3, .int s.2.1), (4, .int s.2.2)] []) (fun (x : (Int32)) => J E X Q S 108 [(3, .int x)] []) o) : J E X Q S 102 [(0, .ref (eA E 10)), (1, .int v1), (2, .int v2), (3, .int v3), (4, .int v4)] [] := by
  unfold f6_sidesOf_10_b102 at h
  refine j_iinc (v := (v4 + (1 : Int32))) (lv' := [(4, .int (v4 + (1 : Int32))), (0, .ref (eA E 10)), (1, .int v1), (2, .int v2), (3, .int v3)]) (q := 4) hF rfl (congrArg (fun z => v4 + z) (by decide)) (by decide) rfl dX6_sidesOf_102 ?_
  refine j_nmL h (fun x11 h => ?_)
  refine j_goto (tgt := 7) hF (by decide) dX6_sidesOf_105 ?_
  obtain rfl := ret1 h
  refine j_sub (lv' := [(0, .ref (eA E 10)), (1, .int v1), (2, .int v2), (3, .int v3), (4, .int x11)]) hF [1, 2, 3, 4, 0] rfl ?_
  exact hC
set_option maxHeartbeats 1000000 in
theorem t6_sidesOf_10_L7 {E : En} {X : Cx} {Q : State → Prop} {N : Nat} {v1 : Int32} {v2 : Int32} {v3 : Int32} {v4 : Int32} {S : Mem} {o : ((Int32 × Int32 × Int32) ⊕ (Int32))} (hF : Fx E X cX6_sidesOf RX6 8 (some .int) 2) (h : f6_sidesOf_10_L7 N v1 v2 v3 v4 S = some o) (hC : Sum.elim (fun (s : (Int32 × Int32 × Int32)) => J E X Q S 7 [(0, .ref (eA E 10)), (1, .int v1), (2, .int s.1), (3, .int s.2.1), (4, .int s.2.2)] []) (fun (x : (Int32)) => J E X Q S 108 [(3, .int x)] []) o) : J E X Q S 7 [(0, .ref (eA E 10)), (1, .int v1), (2, .int v2), (3, .int v3), (4, .int v4)] [] := by
  unfold f6_sidesOf_10_L7 at h
  refine j_iload hF 4 rfl dX6_sidesOf_7 ?_
  refine j_aload_n hF rfl 0 rfl dX6_sidesOf_9 ?_
  obtain ⟨r1, hr1, h⟩ := bnp_some h
  refine j_callV_i (As := []) (st := [.int v4]) hF rfl mv_6_sets (by decide) (s_10 E _) rfl bw_4_19 rfl (by decide) (Nat.le_of_ble_eq_true rfl) dX6_sidesOf_10 (c6_sets_10 hr1) ?_
  refine j_icmp_ge (tgt := 108) hF h (by decide) dX6_sidesOf_13 (fun h => ?_) (fun h => ?_)
  · obtain rfl := ret1 h
    refine j_sub (lv' := [(3, .int v3)]) hF [3] rfl ?_
    exact hC
  · refine j_iconst (v := (0 : Int32)) hF (by decide) dX6_sidesOf_16 ?_
    refine j_istore (lv' := [(5, .int (0 : Int32)), (0, .ref (eA E 10)), (1, .int v1), (2, .int v2), (3, .int v3), (4, .int v4)]) hF (by decide) rfl dX6_sidesOf_17 ?_
    obtain ⟨z10, hz10, h⟩ := bnp_some h
    refine j_sub (lv' := [(0, .ref (eA E 10)), (1, .int v1), (2, .int v2), (3, .int v3), (4, .int v4), (5, .int (0 : Int32))]) hF [1, 2, 3, 4, 5, 0] rfl ?_
    have hx : (fun (x : (Int32 × Int32)) => J E X Q S 102 [(0, .ref (eA E 10)), (1, .int v1), (2, .int x.1), (3, .int x.2), (4, .int v4)] []) z10 := by
      exact t6_sidesOf_10_b102 hF h hC
    exact lp_rule (Jh := fun (s : (Int32 × Int32 × Int32)) => J E X Q S 19 [(0, .ref (eA E 10)), (1, .int v1), (2, .int s.1), (3, .int s.2.1), (4, .int v4), (5, .int s.2.2)] []) (C := fun (x : (Int32 × Int32)) => J E X Q S 102 [(0, .ref (eA E 10)), (1, .int v1), (2, .int x.1), (3, .int x.2), (4, .int v4)] []) (fun s o h hC => t6_sidesOf_10_L19 hF h hC) N (v2, v3, (0 : Int32)) z10 hz10 hx
set_option maxHeartbeats 1000000 in
theorem t6_sidesOf_10_b108 {E : En} {X : Cx} {Q : State → Prop} {N : Nat} {v3 : Int32} {S : Mem} {o : Int32} (hF : Fx E X cX6_sidesOf RX6 8 (some .int) 2) (h : f6_sidesOf_10_b108 N v3 S = some o) (hC : Q = RQ E X (some (.int o)) S) : J E X Q S 108 [(3, .int v3)] [] := by
  unfold f6_sidesOf_10_b108 at h
  refine j_iload_n hF rfl 0 rfl dX6_sidesOf_108 ?_
  obtain rfl := ret1 h
  exact j_iret hF hC dX6_sidesOf_109
set_option maxHeartbeats 1000000 in
theorem t6_sidesOf_10 {E : En} {X : Cx} {Q : State → Prop} {N : Nat} {a1 : Int32} {S : Mem} {o : Int32} (hF : Fx E X cX6_sidesOf RX6 8 (some .int) 2) (h : f6_sidesOf_10 N a1 S = some o) (hC : Q = RQ E X (some (.int o)) S) : J E X Q S 0 [(0, .ref (eA E 10)), (1, .int a1)] [] := by
  unfold f6_sidesOf_10 at h
  refine j_iconst (v := (4 : Int32)) hF (by decide) dX6_sidesOf_0 ?_
  refine j_istore_n (lv' := [(2, .int (4 : Int32)), (0, .ref (eA E 10)), (1, .int a1)]) hF rfl (by decide) rfl dX6_sidesOf_1 ?_
  refine j_iconst (v := (-1 : Int32)) hF (by decide) dX6_sidesOf_2 ?_
  refine j_istore_n (lv' := [(3, .int (-1 : Int32)), (2, .int (4 : Int32)), (0, .ref (eA E 10)), (1, .int a1)]) hF rfl (by decide) rfl dX6_sidesOf_3 ?_
  refine j_iconst (v := (0 : Int32)) hF (by decide) dX6_sidesOf_4 ?_
  refine j_istore (lv' := [(4, .int (0 : Int32)), (3, .int (-1 : Int32)), (2, .int (4 : Int32)), (0, .ref (eA E 10)), (1, .int a1)]) hF (by decide) rfl dX6_sidesOf_5 ?_
  obtain ⟨z12, hz12, h⟩ := bnp_some h
  refine j_sub (lv' := [(0, .ref (eA E 10)), (1, .int a1), (2, .int (4 : Int32)), (3, .int (-1 : Int32)), (4, .int (0 : Int32))]) hF [3, 4, 2, 1, 0] rfl ?_
  have hx : (fun (x : (Int32)) => J E X Q S 108 [(3, .int x)] []) z12 := by
    exact t6_sidesOf_10_b108 hF h hC
  exact lp_rule (Jh := fun (s : (Int32 × Int32 × Int32)) => J E X Q S 7 [(0, .ref (eA E 10)), (1, .int a1), (2, .int s.1), (3, .int s.2.1), (4, .int s.2.2)] []) (C := fun (x : (Int32)) => J E X Q S 108 [(3, .int x)] []) (fun s o h hC => t6_sidesOf_10_L7 hF h hC) N ((4 : Int32), (-1 : Int32), (0 : Int32)) z12 hz12 hx
set_option maxHeartbeats 1000000 in
theorem c6_sidesOf_10 {E : En} {N : Nat} {a1 : Int32} {S : Mem} {ro : Int32} (h : f6_sidesOf_10 N a1 S = some ro) : CT E yX6_sidesOf cX6_sidesOf 8 (some .int) 2 [.ref (eA E 10), .int a1] S (some (.int ro)) S :=
  CT_of (by decide) (Nat.le_of_ble_eq_true rfl) (fun X hF => t6_sidesOf_10 hF h rfl)
