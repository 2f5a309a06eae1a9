def f9_sack (N : Nat) (a1 : Int32) (a2 : Int32) (S : Mem) : Option Int32 :=
bnp (f9_isBetween N a1 (0 : Int32) (27 : Int32) S) fun r1 =>
if r1 = 0 then
some ((-1 : Int32))
else
bnp (f9_isBetween N a2 (0 : Int32) (2 : Int32) S) fun r2 =>
if r2 = 0 then
some ((-1 : Int32))
else
bnp (f6_sidesOf_10 N a1 S) fun r3 =>
if 0 ≤ r3 then
if (8 : Int32) = (0 : Int32) then none else
lt_ (r3 / (8 : Int32)) fun x4 =>
if (8 : Int32) = (0 : Int32) then none else
lt_ (r3 - r3 / (8 : Int32) * (8 : Int32)) fun x5 =>
if a2 = 0 then
bnp (fJ6_bitCount N x4 S) fun r6 =>
bnp (fJ6_bitCount N x5 S) fun r7 =>
some ((r6 + r7))
else
if a2 = (1 : Int32) then
some (x4)
else
some (x5)
else
some ((-9 : Int32))
set_option maxHeartbeats 1000000 in
theorem t9_sack {E : En} {X : Cx} {Q : State → Prop} {N : Nat} {a1 : Int32} {a2 : Int32} {S : Mem} {o : Int32} (hF : Fx E X cX9_sack RX9 6 (some .int) 3) (h : f9_sack N a1 a2 S = some o) (hC : Q = RQ E X (some (.int o)) S) : J E X Q S 0 [(0, .ref (eA E 0)), (1, .int a1), (2, .int a2)] [] := by
  unfold f9_sack at h
  refine j_iload_n hF rfl 1 rfl dX9_sack_0 ?_
  refine j_iconst (v := (0 : Int32)) hF (by decide) dX9_sack_1 ?_
  refine j_bipush (v := (27 : Int32)) hF (by decide) dX9_sack_2 ?_
  obtain ⟨r1, hr1, h⟩ := bnp_some h
  refine j_callS_i (As := [.int a1, .int (0 : Int32), .int (27 : Int32)]) (st := []) hF rfl mv_9_isBetween bw_2_219 rfl (by decide) (Nat.le_of_ble_eq_true rfl) dX9_sack_4 (c9_isBetween hr1) ?_
  refine j_if_eq (tgt := 19) hF h (by decide) dX9_sack_7 (fun h => ?_) (fun h => ?_)
  · refine j_iconst (v := (-1 : Int32)) hF (by decide) dX9_sack_19 ?_
    obtain rfl := ret1 h
    exact j_iret hF hC dX9_sack_20
  · refine j_iload_n hF rfl 2 rfl dX9_sack_10 ?_
    refine j_iconst (v := (0 : Int32)) hF (by decide) dX9_sack_11 ?_
    refine j_iconst (v := (2 : Int32)) hF (by decide) dX9_sack_12 ?_
    obtain ⟨r2, hr2, h⟩ := bnp_some h
    refine j_callS_i (As := [.int a2, .int (0 : Int32), .int (2 : Int32)]) (st := []) hF rfl mv_9_isBetween bw_2_219 rfl (by decide) (Nat.le_of_ble_eq_true rfl) dX9_sack_13 (c9_isBetween hr2) ?_
    refine j_if_ne (tgt := 21) hF h (by decide) dX9_sack_16 (fun h => ?_) (fun h => ?_)
    · refine j_aload_n hF rfl 0 rfl dX9_sack_21 ?_
      refine gf9_2 hF (by decide) (s_0 E _) rfl bw_1_227 dX9_sack_22 ?_
      refine j_iload_n hF rfl 1 rfl dX9_sack_25 ?_
      obtain ⟨r3, hr3, h⟩ := bnp_some h
      refine j_callV_i (As := [.int a1]) (st := []) hF rfl mv_6_sidesOf (by decide) (s_10 E _) rfl bw_4_15 rfl (by decide) (Nat.le_of_ble_eq_true rfl) dX9_sack_26 (c6_sidesOf_10 hr3) ?_
      refine j_istore_n (lv' := [(3, .int r3), (0, .ref (eA E 0)), (1, .int a1), (2, .int a2)]) hF rfl (by decide) rfl dX9_sack_29 ?_
      refine j_iload_n hF rfl 0 rfl dX9_sack_30 ?_
      refine j_if_ge (tgt := 37) hF h (by decide) dX9_sack_31 (fun h => ?_) (fun h => ?_)
      · refine j_iload_n hF rfl 0 rfl dX9_sack_37 ?_
        refine j_bipush (v := (8 : Int32)) hF (by decide) dX9_sack_38 ?_
        refine j_idiv hF h dX9_sack_40 (fun h => ?_)
        refine j_istore (lv' := [(4, .int (r3 / (8 : Int32))), (3, .int r3), (0, .ref (eA E 0)), (1, .int a1), (2, .int a2)]) hF (by decide) rfl dX9_sack_41 ?_
        refine j_nmL h (fun x4 h => ?_)
        refine j_iload_n hF rfl 1 rfl dX9_sack_43 ?_
        refine j_bipush (v := (8 : Int32)) hF (by decide) dX9_sack_44 ?_
        refine j_irem hF h dX9_sack_46 (fun h => ?_)
        refine j_istore (lv' := [(5, .int (r3 - r3 / (8 : Int32) * (8 : Int32))), (4, .int x4), (3, .int r3), (0, .ref (eA E 0)), (1, .int a1), (2, .int a2)]) hF (by decide) rfl dX9_sack_47 ?_
        refine j_nmL h (fun x5 h => ?_)
        refine j_iload_n hF rfl 5 rfl dX9_sack_49 ?_
        refine j_if_ne (tgt := 65) hF h (by decide) dX9_sack_50 (fun h => ?_) (fun h => ?_)
        · refine j_iload_n hF rfl 5 rfl dX9_sack_65 ?_
          refine j_iconst (v := (1 : Int32)) hF (by decide) dX9_sack_66 ?_
          refine j_icmp_ne (tgt := 75) hF h (by decide) dX9_sack_67 (fun h => ?_) (fun h => ?_)
          · refine j_iload hF 0 rfl dX9_sack_75 ?_
            obtain rfl := ret1 h
            exact j_iret hF hC dX9_sack_77
          · refine j_iload hF 1 rfl dX9_sack_70 ?_
            refine j_goto (tgt := 77) hF (by decide) dX9_sack_72 ?_
            obtain rfl := ret1 h
            exact j_iret hF hC dX9_sack_77
        · refine j_iload hF 1 rfl dX9_sack_53 ?_
          obtain ⟨r6, hr6, h⟩ := bnp_some h
          refine j_callS_i (As := [.int x4]) (st := []) hF rfl mv_J6_bitCount bw_4_22 rfl (by decide) (Nat.le_of_ble_eq_true rfl) dX9_sack_55 (cJ6_bitCount hr6) ?_
          refine j_iload hF 0 rfl dX9_sack_58 ?_
          obtain ⟨r7, hr7, h⟩ := bnp_some h
          refine j_callS_i (As := [.int x5]) (st := [.int r6]) hF rfl mv_J6_bitCount bw_4_22 rfl (by decide) (Nat.le_of_ble_eq_true rfl) dX9_sack_60 (cJ6_bitCount hr7) ?_
          refine j_iadd hF dX9_sack_63 ?_
          obtain rfl := ret1 h
          exact j_iret hF hC dX9_sack_64
      · refine j_bipush (v := (-9 : Int32)) hF (by decide) dX9_sack_34 ?_
        obtain rfl := ret1 h
        exact j_iret hF hC dX9_sack_36
    · refine j_iconst (v := (-1 : Int32)) hF (by decide) dX9_sack_19 ?_
      obtain rfl := ret1 h
      exact j_iret hF hC dX9_sack_20
set_option maxHeartbeats 1000000 in
theorem c9_sack {E : En} {N : Nat} {a1 : Int32} {a2 : Int32} {S : Mem} {ro : Int32} (h : f9_sack N a1 a2 S = some ro) : CT E yX9_sack cX9_sack 6 (some .int) 3 [.ref (eA E 0), .int a1, .int a2] S (some (.int ro)) S :=
  CT_of (by decide) (Nat.le_of_ble_eq_true rfl) (fun X hF => t9_sack hF h rfl)
def f6_outcomeFrom_10_b86 (N : Nat) (v1 : Int32) (v2 : Int32) (v3 : Int32) (v4 : Int32) (S : Mem) : Option ((Int32 × Int32) ⊕ (Int32)) :=
lt_ (v4 + (1 : Int32)) fun x4 =>
some (.inl (v3, x4))
def f6_outcomeFrom_10_b85 (N : Nat) (v1 : Int32) (v2 : Int32) (v4 : Int32) (w0 : Int32) (S : Mem) : Option ((Int32 × Int32) ⊕ (Int32)) :=
f6_outcomeFrom_10_b86 N v1 v2 w0 v4 S
def f6_outcomeFrom_10_L33 (N : Nat) (v1 : Int32) (v2 : Int32) (v3 : Int32) (v4 : Int32) (S : Mem) : Option ((Int32 × Int32) ⊕ (Int32)) :=
if ((S 10).1 2) ≤ v4 then
some (.inr (v3))
else
if ((v1 >>> (v4 &&& 31)) &&& (1 : Int32)) = 0 then
bnp (f5_get N 13 8 (v1 ||| ((1 : Int32) <<< (v4 &&& 31))) S) fun r5 =>
if v2 = 0 then
f6_outcomeFrom_10_b85 N v1 v2 v4 (if r5 < v3 then r5 else v3) S
else
f6_outcomeFrom_10_b85 N v1 v2 v4 (if v3 < r5 then r5 else v3) S
else
f6_outcomeFrom_10_b86 N v1 v2 v3 v4 S
def f6_outcomeFrom_10_b92 (N : Nat) (v3 : Int32) (S : Mem) : Option Int32 :=
some (v3)
def f6_outcomeFrom_10_b14 (N : Nat) (v1 : Int32) (w0 : Int32) (S : Mem) : Option Int32 :=
bnp (f6_loadOf_10 N v1 S) fun r2 =>
bnp (f6_leftOver_10 N (r2 + ((S 10).1 3)) S) fun r3 =>
bnp (lp N (fun s => f6_outcomeFrom_10_L33 N v1 w0 s.1 s.2 S) (r3, (0 : Int32))) fun z6 =>
f6_outcomeFrom_10_b92 N z6 S
def f6_outcomeFrom_10 (N : Nat) (a1 : Int32) (S : Mem) : Option Int32 :=
bnp (fJ6_bitCount N a1 S) fun r1 =>
if (2 : Int32) = (0 : Int32) then none else
if (r1 - r1 / (2 : Int32) * (2 : Int32)) = 0 then
f6_outcomeFrom_10_b14 N a1 (1 : Int32) S
else
f6_outcomeFrom_10_b14 N a1 (0 : Int32) S
set_option maxHeartbeats 1000000 in
theorem t6_outcomeFrom_10_b86 {E : En} {X : Cx} {Q : State → Prop} {N : Nat} {v1 : Int32} {v2 : Int32} {v3 : Int32} {v4 : Int32} {S : Mem} {o : ((Int32 × Int32) ⊕ (Int32))} (hF : Fx E X cX6_outcomeFrom RX6 6 (some .int) 2) (h : f6_outcomeFrom_10_b86 N v1 v2 v3 v4 S = some o) (hC : Sum.elim (fun (s : (Int32 × Int32)) => J E X Q S 33 [(0, .ref (eA E 10)), (1, .int v1), (2, .int v2), (3, .int s.1), (4, .int s.2)] []) (fun (x : (Int32)) => J E X Q S 92 [(3, .int x)] []) o) : J E X Q S 86 [(0, .ref (eA E 10)), (1, .int v1), (2, .int v2), (3, .int v3), (4, .int v4)] [] := by
  unfold f6_outcomeFrom_10_b86 at h
  refine j_iinc (v := (v4 + (1 : Int32))) (lv' := [(4, .int (v4 + (1 : Int32))), (0, .ref (eA E 10)), (1, .int v1), (2, .int v2), (3, .int v3)]) (q := 4) hF rfl (congrArg (fun z => v4 + z) (by decide)) (by decide) rfl dX6_outcomeFrom_86 ?_
  refine j_nmL h (fun x4 h => ?_)
  refine j_goto (tgt := 33) hF (by decide) dX6_outcomeFrom_89 ?_
  obtain rfl := ret1 h
  refine j_sub (lv' := [(0, .ref (eA E 10)), (1, .int v1), (2, .int v2), (3, .int v3), (4, .int x4)]) hF [1, 2, 3, 4, 0] rfl ?_
  exact hC
set_option maxHeartbeats 1000000 in
theorem t6_outcomeFrom_10_b85 {E : En} {X : Cx} {Q : State → Prop} {N : Nat} {v1 : Int32} {v2 : Int32} {v4 : Int32} {w0 : Int32} {S : Mem} {o : ((Int32 × Int32) ⊕ (Int32))} (hF : Fx E X cX6_outcomeFrom RX6 6 (some .int) 2) (h : f6_outcomeFrom_10_b85 N v1 v2 v4 w0 S = some o) (hC : Sum.elim (fun (s : (Int32 × Int32)) => J E X Q S 33 [(0, .ref (eA E 10)), (1, .int v1), (2, .int v2), (3, .int s.1), (4, .int s.2)] []) (fun (x : (Int32)) => J E X Q S 92 [(3, .int x)] []) o) : J E X Q S 85 [(0, .ref (eA E 10)), (1, .int v1), (2, .int v2), (4, .int v4)] [.int w0] := by
  unfold f6_outcomeFrom_10_b85 at h
  refine j_istore_n (lv' := [(3, .int w0), (0, .ref (eA E 10)), (1, .int v1), (2, .int v2), (4, .int v4)]) hF rfl (by decide) rfl dX6_outcomeFrom_85 ?_
  refine j_sub (lv' := [(0, .ref (eA E 10)), (1, .int v1), (2, .int v2), (3, .int w0), (4, .int v4)]) hF [1, 2, 3, 0, 4] rfl ?_
  exact t6_outcomeFrom_10_b86 hF h hC
set_option maxHeartbeats 1000000 in
theorem t6_outcomeFrom_10_L33 {E : En} {X : Cx} {Q : State → Prop} {N : Nat} {v1 : Int32} {v2 : Int32} {v3 : Int32} {v4 : Int32} {S : Mem} {o : ((Int32 × Int32) ⊕ (Int32))} (hF : Fx E X cX6_outcomeFrom RX6 6 (some .int) 2) (h : f6_outcomeFrom_10_L33 N v1 v2 v3 v4 S = some o) (hC : Sum.elim (fun (s : (Int32 × Int32)) => J E X Q S 33 [(0, .ref (eA E 10)), (1, .int v1), (2, .int v2), (3, .int s.1), (4, .int s.2)] []) (fun (x : (Int32)) => J E X Q S 92 [(3, .int x)] []) o) : J E X Q S 33 [(0, .ref (eA E 10)), (1, .int v1), (2, .int v2), (3, .int v3), (4, .int v4)] [] := by
  unfold f6_outcomeFrom_10_L33 at h
  refine j_iload hF 4 rfl dX6_outcomeFrom_33 ?_
  refine j_aload_n hF rfl 0 rfl dX6_outcomeFrom_35 ?_
  refine gf6_2 hF (by decide) (s_10 E _) rfl bw_1_66 dX6_outcomeFrom_36 ?_
  refine j_icmp_ge (tgt := 92) hF h (by decide) dX6_outcomeFrom_39 (fun h => ?_) (fun h => ?_)
  · obtain rfl := ret1 h
    refine j_sub (lv' := [(3, .int v3)]) hF [3] rfl ?_
    exact hC
  · refine j_iload_n hF rfl 1 rfl dX6_outcomeFrom_42 ?_
    refine j_iload hF 4 rfl dX6_outcomeFrom_43 ?_
    refine j_ishr hF dX6_outcomeFrom_45 ?_
    refine j_iconst (v := (1 : Int32)) hF (by decide) dX6_outcomeFrom_46 ?_
    refine j_iand hF dX6_outcomeFrom_47 ?_
    refine j_if_ne (tgt := 86) hF h (by decide) dX6_outcomeFrom_48 (fun h => ?_) (fun h => ?_)
    · exact t6_outcomeFrom_10_b86 hF h hC
    · refine j_aload_n hF rfl 0 rfl dX6_outcomeFrom_51 ?_
      refine gf6_1 hF (by decide) (s_10 E _) rfl bw_1_65 dX6_outcomeFrom_52 ?_
      refine j_iload_n hF rfl 1 rfl dX6_outcomeFrom_55 ?_
      refine j_iconst (v := (1 : Int32)) hF (by decide) dX6_outcomeFrom_56 ?_
      refine j_iload hF 4 rfl dX6_outcomeFrom_57 ?_
      refine j_ishl hF dX6_outcomeFrom_59 ?_
      refine j_ior hF dX6_outcomeFrom_60 ?_
      obtain ⟨r5, hr5, h⟩ := bnp_some h
      refine j_callV_i (As := [.int (v1 ||| ((1 : Int32) <<< (v4 &&& 31)))]) (st := []) hF rfl mv_5_get (by decide) (s_13 E _) rfl bw_2_224 rfl (by decide) (Nat.le_of_ble_eq_true rfl) dX6_outcomeFrom_61 (c5_get (ra_13 E) hr5) ?_
      refine j_istore (lv' := [(5, .int r5), (0, .ref (eA E 10)), (1, .int v1), (2, .int v2), (3, .int v3), (4, .int v4)]) hF (by decide) rfl dX6_outcomeFrom_64 ?_
      refine j_iload_n hF rfl 3 rfl dX6_outcomeFrom_66 ?_
      refine j_if_eq (tgt := 79) hF h (by decide) dX6_outcomeFrom_67 (fun h => ?_) (fun h => ?_)
      · refine j_iload_n hF rfl 4 rfl dX6_outcomeFrom_79 ?_
        refine j_iload hF 0 rfl dX6_outcomeFrom_80 ?_
        refine j_mmin hF bw_4_37 bw_4_38 bw_1_17 bw_4_39 (by decide) (Nat.le_of_ble_eq_true rfl) dX6_outcomeFrom_82 ?_
        refine j_sub (lv' := [(0, .ref (eA E 10)), (1, .int v1), (2, .int v2), (4, .int v4)]) hF [1, 2, 3, 5] rfl ?_
        exact t6_outcomeFrom_10_b85 hF h hC
      · refine j_iload_n hF rfl 4 rfl dX6_outcomeFrom_70 ?_
        refine j_iload hF 0 rfl dX6_outcomeFrom_71 ?_
        refine j_mmax hF bw_4_36 bw_3_189 bw_1_17 bw_3_190 (by decide) (Nat.le_of_ble_eq_true rfl) dX6_outcomeFrom_73 ?_
        refine j_goto (tgt := 85) hF (by decide) dX6_outcomeFrom_76 ?_
        refine j_sub (lv' := [(0, .ref (eA E 10)), (1, .int v1), (2, .int v2), (4, .int v4)]) hF [1, 2, 3, 5] rfl ?_
        exact t6_outcomeFrom_10_b85 hF h hC
set_option maxHeartbeats 1000000 in
theorem t6_outcomeFrom_10_b92 {E : En} {X : Cx} {Q : State → Prop} {N : Nat} {v3 : Int32} {S : Mem} {o : Int32} (hF : Fx E X cX6_outcomeFrom RX6 6 (some .int) 2) (h : f6_outcomeFrom_10_b92 N v3 S = some o) (hC : Q = RQ E X (some (.int o)) S) : J E X Q S 92 [(3, .int v3)] [] := by
  unfold f6_outcomeFrom_10_b92 at h
  refine j_iload_n hF rfl 0 rfl dX6_outcomeFrom_92 ?_
  obtain rfl := ret1 h
  exact j_iret hF hC dX6_outcomeFrom_93
set_option maxHeartbeats 1000000 in
theorem t6_outcomeFrom_10_b14 {E : En} {X : Cx} {Q : State → Prop} {N : Nat} {v1 : Int32} {w0 : Int32} {S : Mem} {o : Int32} (hF : Fx E X cX6_outcomeFrom RX6 6 (some .int) 2) (h : f6_outcomeFrom_10_b14 N v1 w0 S = some o) (hC : Q = RQ E X (some (.int o)) S) : J E X Q S 14 [(0, .ref (eA E 10)), (1, .int v1)] [.int w0] := by
  unfold f6_outcomeFrom_10_b14 at h
  refine j_istore_n (lv' := [(2, .int w0), (0, .ref (eA E 10)), (1, .int v1)]) hF rfl (by decide) rfl dX6_outcomeFrom_14 ?_
  refine j_aload_n hF rfl 1 rfl dX6_outcomeFrom_15 ?_
  refine j_aload_n hF rfl 1 rfl dX6_outcomeFrom_16 ?_
  refine j_iload_n hF rfl 2 rfl dX6_outcomeFrom_17 ?_
  obtain ⟨r2, hr2, h⟩ := bnp_some h
  refine j_callV_i (As := [.int v1]) (st := [.ref (eA E 10)]) hF rfl mv_6_loadOf (by decide) (s_10 E _) rfl bw_4_21 rfl (by decide) (Nat.le_of_ble_eq_true rfl) dX6_outcomeFrom_18 (c6_loadOf_10 hr2) ?_
  refine j_aload_n hF rfl 1 rfl dX6_outcomeFrom_21 ?_
  refine gf6_3 hF (by decide) (s_10 E _) rfl bw_1_67 dX6_outcomeFrom_22 ?_
  refine j_iadd hF dX6_outcomeFrom_25 ?_
  obtain ⟨r3, hr3, h⟩ := bnp_some h
  refine j_callV_i (As := [.int (r2 + ((S 10).1 3))]) (st := []) hF rfl mv_6_leftOver (by decide) (s_10 E _) rfl bw_4_35 rfl (by decide) (Nat.le_of_ble_eq_true rfl) dX6_outcomeFrom_26 (c6_leftOver_10 hr3) ?_
  refine j_istore_n (lv' := [(3, .int r3), (2, .int w0), (0, .ref (eA E 10)), (1, .int v1)]) hF rfl (by decide) rfl dX6_outcomeFrom_29 ?_
  refine j_iconst (v := (0 : Int32)) hF (by decide) dX6_outcomeFrom_30 ?_
  refine j_istore (lv' := [(4, .int (0 : Int32)), (3, .int r3), (2, .int w0), (0, .ref (eA E 10)), (1, .int v1)]) hF (by decide) rfl dX6_outcomeFrom_31 ?_
  obtain ⟨z6, hz6, h⟩ := bnp_some h
  refine j_sub (lv' := [(0, .ref (eA E 10)), (1, .int v1), (2, .int w0), (3, .int r3), (4, .int (0 : Int32))]) hF [3, 4, 2, 1, 0] rfl ?_
  have hx : (fun (x : (Int32)) => J E X Q S 92 [(3, .int x)] []) z6 := by
    exact t6_outcomeFrom_10_b92 hF h hC
  exact lp_rule (Jh := fun (s : (Int32 × Int32)) => J E X Q S 33 [(0, .ref (eA E 10)), (1, .int v1), (2, .int w0), (3, .int s.1), (4, .int s.2)] []) (C := fun (x : (Int32)) => J E X Q S 92 [(3, .int x)] []) (fun s o h hC => t6_outcomeFrom_10_L33 hF h hC) N (r3, (0 : Int32)) z6 hz6 hx
set_option maxHeartbeats 1000000 in
theorem t6_outcomeFrom_10 {E : En} {X : Cx} {Q : State → Prop} {N : Nat} {a1 : Int32} {S : Mem} {o : Int32} (hF : Fx E X cX6_outcomeFrom RX6 6 (some .int) 2) (h : f6_outcomeFrom_10 N a1 S = some o) (hC : Q = RQ E X (some (.int o)) S) : J E X Q S 0 [(0, .ref (eA E 10)), (1, .int a1)] [] := by
  unfold f6_outcomeFrom_10 at h
  refine j_iload_n hF rfl 1 rfl dX6_outcomeFrom_0 ?_
  obtain ⟨r1, hr1, h⟩ := bnp_some h
  refine j_callS_i (As := [.int a1]) (st := []) hF rfl mv_J6_bitCount bw_4_20 rfl (by decide) (Nat.le_of_ble_eq_true rfl) dX6_outcomeFrom_1 (cJ6_bitCount hr1) ?_
  refine j_iconst (v := (2 : Int32)) hF (by decide) dX6_outcomeFrom_4 ?_
  refine j_irem hF h dX6_outcomeFrom_5 (fun h => ?_)
  refine j_if_ne (tgt := 13) hF h (by decide) dX6_outcomeFrom_6 (fun h => ?_) (fun h => ?_)
  · refine j_iconst (v := (0 : Int32)) hF (by decide) dX6_outcomeFrom_13 ?_
    exact t6_outcomeFrom_10_b14 hF h hC
  · refine j_iconst (v := (1 : Int32)) hF (by decide) dX6_outcomeFrom_9 ?_
    refine j_goto (tgt := 14) hF (by decide) dX6_outcomeFrom_10 ?_
    exact t6_outcomeFrom_10_b14 hF h hC
set_option maxHeartbeats 1000000 in
theorem c6_outcomeFrom_10 {E : En} {N : Nat} {a1 : Int32} {S : Mem} {ro : Int32} (h : f6_outcomeFrom_10 N a1 S = some ro) : CT E yX6_outcomeFrom cX6_outcomeFrom 6 (some .int) 2 [.ref (eA E 10), .int a1] S (some (.int ro)) S :=
  CT_of (by decide) (Nat.le_of_ble_eq_true rfl) (fun X hF => t6_outcomeFrom_10 hF h rfl)
def f6_shownByTurns_10_L7 (N : Nat) (v1 : Int32) (S : Mem) : Option ((Int32 × Mem) ⊕ (Mem)) :=
if v1 < 0 then
some (.inr (S))
else
bnp (f6_outcomeFrom_10 N v1 S) fun r3 =>
bnd (f5_put N 13 8 v1 r3 S) fun r4 S5 =>
lt_ (v1 + (-1 : Int32)) fun x6 =>
some (.inl (x6, S5))
def f6_shownByTurns_10_b30 (N : Nat) (S : Mem) : Option (Int32 × Mem) :=
bnp (f5_get N 13 8 (0 : Int32) S) fun r8 =>
some ((r8, S))
def f6_shownByTurns_10 (N : Nat) (S : Mem) : Option (Int32 × Mem) :=
bnp (f6_sets_10 N S) fun r1 =>
lt_ (r1 - (1 : Int32)) fun x2 =>
bnp (lp N (fun s => f6_shownByTurns_10_L7 N s.1 s.2) (x2, S)) fun z7 =>
f6_shownByTurns_10_b30 N z7
set_option maxHeartbeats 1000000 in
theorem t6_shownByTurns_10_L7 {E : En} {X : Cx} {Q : State → Prop} {N : Nat} {v1 : Int32} {S : Mem} {o : ((Int32 × Mem) ⊕ (Mem))} (hF : Fx E X cX6_shownByTurns RX6 2 (some .int) 3) (h : f6_shownByTurns_10_L7 N v1 S = some o) (hC : Sum.elim (fun (s : (Int32 × Mem)) => J E X Q s.2 7 [(0, .ref (eA E 10)), (1, .int s.1)] []) (fun (x : (Mem)) => J E X Q x 30 [(0, .ref (eA E 10))] []) o) : J E X Q S 7 [(0, .ref (eA E 10)), (1, .int v1)] [] := by
  unfold f6_shownByTurns_10_L7 at h
  refine j_iload_n hF rfl 1 rfl dX6_shownByTurns_7 ?_
  refine j_if_lt (tgt := 30) hF h (by decide) dX6_shownByTurns_8 (fun h => ?_) (fun h => ?_)
  · obtain rfl := ret1 h
    refine j_sub (lv' := [(0, .ref (eA E 10))]) hF [0] rfl ?_
    exact hC
  · refine j_aload_n hF rfl 0 rfl dX6_shownByTurns_11 ?_
    refine gf6_1 hF (by decide) (s_10 E _) rfl bw_1_65 dX6_shownByTurns_12 ?_
    refine j_iload_n hF rfl 1 rfl dX6_shownByTurns_15 ?_
    refine j_aload_n hF rfl 0 rfl dX6_shownByTurns_16 ?_
    refine j_iload_n hF rfl 1 rfl dX6_shownByTurns_17 ?_
    obtain ⟨r3, hr3, h⟩ := bnp_some h
    refine j_callV_i (As := [.int v1]) (st := [.int v1, .ref (eA E 13)]) hF rfl mv_6_outcomeFrom (by decide) (s_10 E _) rfl bw_4_31 rfl (by decide) (Nat.le_of_ble_eq_true rfl) dX6_shownByTurns_18 (c6_outcomeFrom_10 hr3) ?_
    obtain ⟨r4, S5, hr4, h⟩ := bnd_some h
    refine j_callV_v (As := [.int v1, .int r3]) (st := []) hF rfl mv_5_put (by decide) (s_13 E _) rfl bw_2_171 rfl (by decide) (Nat.le_of_ble_eq_true rfl) dX6_shownByTurns_21 (c5_put (ra_13 E) hr4) ?_
    refine j_iinc (v := (v1 + (-1 : Int32))) (lv' := [(1, .int (v1 + (-1 : Int32))), (0, .ref (eA E 10))]) (q := 1) hF rfl (congrArg (fun z => v1 + z) (by decide)) (by decide) rfl dX6_shownByTurns_24 ?_
    refine j_nmL h (fun x6 h => ?_)
    refine j_goto (tgt := 7) hF (by decide) dX6_shownByTurns_27 ?_
    obtain rfl := ret1 h
    refine j_sub (lv' := [(0, .ref (eA E 10)), (1, .int x6)]) hF [1, 0] rfl ?_
    exact hC
set_option maxHeartbeats 1000000 in
theorem t6_shownByTurns_10_b30 {E : En} {X : Cx} {Q : State → Prop} {N : Nat} {S : Mem} {o : (Int32 × Mem)} (hF : Fx E X cX6_shownByTurns RX6 2 (some .int) 3) (h : f6_shownByTurns_10_b30 N S = some o) (hC : Q = RQ E X (some (.int o.1)) o.2) : J E X Q S 30 [(0, .ref (eA E 10))] [] := by
  unfold f6_shownByTurns_10_b30 at h
  refine j_aload_n hF rfl 0 rfl dX6_shownByTurns_30 ?_
  refine gf6_1 hF (by decide) (s_10 E _) rfl bw_1_65 dX6_shownByTurns_31 ?_
  refine j_iconst (v := (0 : Int32)) hF (by decide) dX6_shownByTurns_34 ?_
  obtain ⟨r8, hr8, h⟩ := bnp_some h
  refine j_callV_i (As := [.int (0 : Int32)]) (st := []) hF rfl mv_5_get (by decide) (s_13 E _) rfl bw_2_224 rfl (by decide) (Nat.le_of_ble_eq_true rfl) dX6_shownByTurns_35 (c5_get (ra_13 E) hr8) ?_
  obtain rfl := ret1 h
  exact j_iret hF hC dX6_shownByTurns_38
set_option maxHeartbeats 1000000 in
theorem t6_shownByTurns_10 {E : En} {X : Cx} {Q : State → Prop} {N : Nat} {S : Mem} {o : (Int32 × Mem)} (hF : Fx E X cX6_shownByTurns RX6 2 (some .int) 3) (h : f6_shownByTurns_10 N S = some o) (hC : Q = RQ E X (some (.int o.1)) o.2) : J E X Q S 0 [(0, .ref (eA E 10))] [] := by
  unfold f6_shownByTurns_10 at h
  refine j_aload_n hF rfl 0 rfl dX6_shownByTurns_0 ?_
  obtain ⟨r1, hr1, h⟩ := bnp_some h
  refine j_callV_i (As := []) (st := []) hF rfl mv_6_sets (by decide) (s_10 E _) rfl bw_4_19 rfl (by decide) (Nat.le_of_ble_eq_true rfl) dX6_shownByTurns_1 (c6_sets_10 hr1) ?_
  refine j_iconst (v := (1 : Int32)) hF (by decide) dX6_shownByTurns_4 ?_
  refine j_isub hF dX6_shownByTurns_5 ?_
  refine j_istore_n (lv' := [(1, .int (r1 - (1 : Int32))), (0, .ref (eA E 10))]) hF rfl (by decide) rfl dX6_shownByTurns_6 ?_
  refine j_nmL h (fun x2 h => ?_)
  obtain ⟨z7, hz7, h⟩ := bnp_some h
  refine j_sub (lv' := [(0, .ref (eA E 10)), (1, .int x2)]) hF [1, 0] rfl ?_
  have hx : (fun (x : (Mem)) => J E X Q x 30 [(0, .ref (eA E 10))] []) z7 := by
    exact t6_shownByTurns_10_b30 hF h hC
  exact lp_rule (Jh := fun (s : (Int32 × Mem)) => J E X Q s.2 7 [(0, .ref (eA E 10)), (1, .int s.1)] []) (C := fun (x : (Mem)) => J E X Q x 30 [(0, .ref (eA E 10))] []) (fun s o h hC => t6_shownByTurns_10_L7 hF h hC) N (x2, S) z7 hz7 hx
set_option maxHeartbeats 1000000 in
theorem c6_shownByTurns_10 {E : En} {N : Nat} {S So : Mem} {ro : Int32} (h : f6_shownByTurns_10 N S = some (ro, So)) : CT E yX6_shownByTurns cX6_shownByTurns 2 (some .int) 3 [.ref (eA E 10)] S (some (.int ro)) So :=
  CT_of (by decide) (Nat.le_of_ble_eq_true rfl) (fun X hF => t6_shownByTurns_10 hF h rfl)
def f9_byTurns (N : Nat) (S : Mem) : Option (Int32 × Mem) :=
bnd (f6_shownByTurns_10 N S) fun r1 S2 =>
some ((r1, S2))
set_option maxHeartbeats 1000000 in
theorem t9_byTurns {E : En} {X : Cx} {Q : State → Prop} {N : Nat} {S : Mem} {o : (Int32 × Mem)} (hF : Fx E X cX9_byTurns RX9 1 (some .int) 4) (h : f9_byTurns N S = some o) (hC : Q = RQ E X (some (.int o.1)) o.2) : J E X Q S 0 [(0, .ref (eA E 0))] [] := by
  unfold f9_byTurns at h
  refine j_aload_n hF rfl 0 rfl dX9_byTurns_0 ?_
  refine gf9_2 hF (by decide) (s_0 E _) rfl bw_1_227 dX9_byTurns_1 ?_
  obtain ⟨r1, S2, hr1, h⟩ := bnd_some h
  refine j_callV_i (As := []) (st := []) hF rfl mv_6_shownByTurns (by decide) (s_10 E _) rfl bw_4_27 rfl (by decide) (Nat.le_of_ble_eq_true rfl) dX9_byTurns_4 (c6_shownByTurns_10 hr1) ?_
  obtain rfl := ret1 h
  exact j_iret hF hC dX9_byTurns_7
set_option maxHeartbeats 1000000 in
theorem c9_byTurns {E : En} {N : Nat} {S So : Mem} {ro : Int32} (h : f9_byTurns N S = some (ro, So)) : CT E yX9_byTurns cX9_byTurns 1 (some .int) 4 [.ref (eA E 0)] S (some (.int ro)) So :=
  CT_of (by decide) (Nat.le_of_ble_eq_true rfl) (fun X hF => t9_byTurns hF h rfl)
def f2_asThing (N : Nat) (a1 : Int32) (S : Mem) : Option (Int32 × Mem) :=
lt_ (wrL S 38 ((S 38).2 + (1 : Int64))) fun S1 =>
bnp (f6_weightOf_10 N a1 S1) fun r2 =>
some ((r2, S1))
set_option maxHeartbeats 1000000 in
theorem t2_asThing {E : En} {X : Cx} {Q : State → Prop} {N : Nat} {a1 : Int32} {S : Mem} {o : (Int32 × Mem)} (hF : Fx E X cX2_asThing RX2 2 (some .int) 2) (h : f2_asThing N a1 S = some o) (hC : Q = RQ E X (some (.int o.1)) o.2) : J E X Q S 0 [(0, .ref (eA E 38)), (1, .int a1)] [] := by
  unfold f2_asThing at h
  refine j_aload_n hF rfl 0 rfl dX2_asThing_0 ?_
  refine j_dup hF rfl dX2_asThing_1 ?_
  refine gf2_2 hF (by decide) (s_38 E _) rfl bw_1_151 dX2_asThing_2 ?_
  refine j_lconst (v := (1 : Int64)) hF (by decide) dX2_asThing_5 ?_
  refine j_ladd hF dX2_asThing_6 ?_
  refine pf2_2 hF (by decide) (s_38 E _) (s_38 E _) (Nat.le_of_ble_eq_true rfl) bw_1_151 dX2_asThing_7 ?_
  refine j_nmM h (fun S1 h => ?_)
  refine j_aload_n hF rfl 0 rfl dX2_asThing_10 ?_
  refine gf2_0 hF (by decide) (s_38 E _) rfl bw_1_149 dX2_asThing_11 ?_
  refine j_iload_n hF rfl 1 rfl dX2_asThing_14 ?_
  obtain ⟨r2, hr2, h⟩ := bnp_some h
  refine j_callV_i (As := [.int a1]) (st := []) hF rfl mv_6_weightOf (by decide) (s_10 E _) rfl bw_4_53 rfl (by decide) (Nat.le_of_ble_eq_true rfl) dX2_asThing_15 (c6_weightOf_10 hr2) ?_
  obtain rfl := ret1 h
  exact j_iret hF hC dX2_asThing_18
set_option maxHeartbeats 1000000 in
theorem c2_asThing {E : En} {N : Nat} {a1 : Int32} {S So : Mem} {ro : Int32} (h : f2_asThing N a1 S = some (ro, So)) : CT E yX2_asThing cX2_asThing 2 (some .int) 2 [.ref (eA E 38), .int a1] S (some (.int ro)) So :=
  CT_of (by decide) (Nat.le_of_ble_eq_true rfl) (fun X hF => t2_asThing hF h rfl)
def f2_asSack (N : Nat) (a1 : Int32) (S : Mem) : Option (Int32 × Mem) :=
lt_ (wrL S 38 ((S 38).2 + (10 : Int64))) fun S1 =>
bnd (f2_asThing N a1 S1) fun r2 S3 =>
bnp (f6_own_10 N S3) fun r4 =>
some (((r2 + r4), S3))
set_option maxHeartbeats 1000000 in
theorem t2_asSack {E : En} {X : Cx} {Q : State → Prop} {N : Nat} {a1 : Int32} {S : Mem} {o : (Int32 × Mem)} (hF : Fx E X cX2_asSack RX2 2 (some .int) 3) (h : f2_asSack N a1 S = some o) (hC : Q = RQ E X (some (.int o.1)) o.2) : J E X Q S 0 [(0, .ref (eA E 38)), (1, .int a1)] [] := by
  unfold f2_asSack at h
  refine j_aload_n hF rfl 0 rfl dX2_asSack_0 ?_
  refine j_dup hF rfl dX2_asSack_1 ?_
  refine gf2_2 hF (by decide) (s_38 E _) rfl bw_1_151 dX2_asSack_2 ?_
  refine j_ldc2 (v := (10 : Int64)) hF bw_4_58 dX2_asSack_5 ?_
  refine j_ladd hF dX2_asSack_8 ?_
  refine pf2_2 hF (by decide) (s_38 E _) (s_38 E _) (Nat.le_of_ble_eq_true rfl) bw_1_151 dX2_asSack_9 ?_
  refine j_nmM h (fun S1 h => ?_)
  refine j_aload_n hF rfl 0 rfl dX2_asSack_12 ?_
  refine j_iload_n hF rfl 1 rfl dX2_asSack_13 ?_
  obtain ⟨r2, S3, hr2, h⟩ := bnd_some h
  refine j_callV_i (As := [.int a1]) (st := []) hF rfl mv_2_asThing (by decide) (s_38 E _) rfl bw_4_49 rfl (by decide) (Nat.le_of_ble_eq_true rfl) dX2_asSack_14 (c2_asThing hr2) ?_
  refine j_aload_n hF rfl 0 rfl dX2_asSack_17 ?_
  refine gf2_0 hF (by decide) (s_38 E _) rfl bw_1_149 dX2_asSack_18 ?_
  obtain ⟨r4, hr4, h⟩ := bnp_some h
  refine j_callV_i (As := []) (st := [.int r2]) hF rfl mv_6_own (by decide) (s_10 E _) rfl bw_4_59 rfl (by decide) (Nat.le_of_ble_eq_true rfl) dX2_asSack_21 (c6_own_10 hr4) ?_
  refine j_iadd hF dX2_asSack_24 ?_
  obtain rfl := ret1 h
  exact j_iret hF hC dX2_asSack_25
set_option maxHeartbeats 1000000 in
theorem c2_asSack {E : En} {N : Nat} {a1 : Int32} {S So : Mem} {ro : Int32} (h : f2_asSack N a1 S = some (ro, So)) : CT E yX2_asSack cX2_asSack 2 (some .int) 3 [.ref (eA E 38), .int a1] S (some (.int ro)) So :=
  CT_of (by decide) (Nat.le_of_ble_eq_true rfl) (fun X hF => t2_asSack hF h rfl)
def f2_asLead (N : Nat) (a1 : Int32) (S : Mem) : Option (Int32 × Mem) :=
lt_ (wrL S 38 ((S 38).2 + (100 : Int64))) fun S1 =>
bnd (f2_asThing N a1 S1) fun r2 S3 =>
some (((r2 * (2 : Int32)), S3))
set_option maxHeartbeats 1000000 in
theorem t2_asLead {E : En} {X : Cx} {Q : State → Prop} {N : Nat} {a1 : Int32} {S : Mem} {o : (Int32 × Mem)} (hF : Fx E X cX2_asLead RX2 2 (some .int) 3) (h : f2_asLead N a1 S = some o) (hC : Q = RQ E X (some (.int o.1)) o.2) : J E X Q S 0 [(0, .ref (eA E 38)), (1, .int a1)] [] := by
  unfold f2_asLead at h
  refine j_aload_n hF rfl 0 rfl dX2_asLead_0 ?_
  refine j_dup hF rfl dX2_asLead_1 ?_
  refine gf2_2 hF (by decide) (s_38 E _) rfl bw_1_151 dX2_asLead_2 ?_
  refine j_ldc2 (v := (100 : Int64)) hF bw_4_64 dX2_asLead_5 ?_
  refine j_ladd hF dX2_asLead_8 ?_
  refine pf2_2 hF (by decide) (s_38 E _) (s_38 E _) (Nat.le_of_ble_eq_true rfl) bw_1_151 dX2_asLead_9 ?_
  refine j_nmM h (fun S1 h => ?_)
  refine j_aload_n hF rfl 0 rfl dX2_asLead_12 ?_
  refine j_iload_n hF rfl 1 rfl dX2_asLead_13 ?_
  obtain ⟨r2, S3, hr2, h⟩ := bnd_some h
  refine j_callV_i (As := [.int a1]) (st := []) hF rfl mv_2_asThing (by decide) (s_38 E _) rfl bw_4_49 rfl (by decide) (Nat.le_of_ble_eq_true rfl) dX2_asLead_14 (c2_asThing hr2) ?_
  refine j_iconst (v := (2 : Int32)) hF (by decide) dX2_asLead_17 ?_
  refine j_imul hF dX2_asLead_18 ?_
  obtain rfl := ret1 h
  exact j_iret hF hC dX2_asLead_19
set_option maxHeartbeats 1000000 in
theorem c2_asLead {E : En} {N : Nat} {a1 : Int32} {S So : Mem} {ro : Int32} (h : f2_asLead N a1 S = some (ro, So)) : CT E yX2_asLead cX2_asLead 2 (some .int) 3 [.ref (eA E 38), .int a1] S (some (.int ro)) So :=
  CT_of (by decide) (Nat.le_of_ble_eq_true rfl) (fun X hF => t2_asLead hF h rfl)
def f2_asFlour (N : Nat) (a1 : Int32) (S : Mem) : Option (Int32 × Mem) :=
lt_ (wrL S 38 ((S 38).2 + (1000 : Int64))) fun S1 =>
bnd (f2_asSack N a1 S1) fun r2 S3 =>
bnp (f0_lines_15 N S3) fun r4 =>
some (((r2 - r4), S3))
set_option maxHeartbeats 1000000 in
theorem t2_asFlour {E : En} {X : Cx} {Q : State → Prop} {N : Nat} {a1 : Int32} {S : Mem} {o : (Int32 × Mem)} (hF : Fx E X cX2_asFlour RX2 2 (some .int) 4) (h : f2_asFlour N a1 S = some o) (hC : Q = RQ E X (some (.int o.1)) o.2) : J E X Q S 0 [(0, .ref (eA E 38)), (1, .int a1)] [] := by
  unfold f2_asFlour at h
  refine j_aload_n hF rfl 0 rfl dX2_asFlour_0 ?_
  refine j_dup hF rfl dX2_asFlour_1 ?_
  refine gf2_2 hF (by decide) (s_38 E _) rfl bw_1_151 dX2_asFlour_2 ?_
  refine j_ldc2 (v := (1000 : Int64)) hF bw_4_69 dX2_asFlour_5 ?_
  refine j_ladd hF dX2_asFlour_8 ?_
  refine pf2_2 hF (by decide) (s_38 E _) (s_38 E _) (Nat.le_of_ble_eq_true rfl) bw_1_151 dX2_asFlour_9 ?_
  refine j_nmM h (fun S1 h => ?_)
  refine j_aload_n hF rfl 0 rfl dX2_asFlour_12 ?_
  refine j_iload_n hF rfl 1 rfl dX2_asFlour_13 ?_
  obtain ⟨r2, S3, hr2, h⟩ := bnd_some h
  refine j_callV_i (As := [.int a1]) (st := []) hF rfl mv_2_asSack (by decide) (s_38 E _) rfl bw_4_54 rfl (by decide) (Nat.le_of_ble_eq_true rfl) dX2_asFlour_14 (c2_asSack hr2) ?_
  refine j_aload_n hF rfl 0 rfl dX2_asFlour_17 ?_
  refine gf2_1 hF (by decide) (s_38 E _) rfl bw_1_150 dX2_asFlour_18 ?_
  obtain ⟨r4, hr4, h⟩ := bnp_some h
  refine j_callV_i (As := []) (st := [.int r2]) hF rfl mv_0_lines (by decide) (s_15 E _) rfl bw_4_70 rfl (by decide) (Nat.le_of_ble_eq_true rfl) dX2_asFlour_21 (c0_lines_15 hr4) ?_
  refine j_isub hF dX2_asFlour_24 ?_
  obtain rfl := ret1 h
  exact j_iret hF hC dX2_asFlour_25
set_option maxHeartbeats 1000000 in
theorem c2_asFlour {E : En} {N : Nat} {a1 : Int32} {S So : Mem} {ro : Int32} (h : f2_asFlour N a1 S = some (ro, So)) : CT E yX2_asFlour cX2_asFlour 2 (some .int) 4 [.ref (eA E 38), .int a1] S (some (.int ro)) So :=
  CT_of (by decide) (Nat.le_of_ble_eq_true rfl) (fun X hF => t2_asFlour hF h rfl)
def f2_asGold (N : Nat) (a1 : Int32) (S : Mem) : Option (Int32 × Mem) :=
lt_ (wrL S 38 ((S 38).2 + (10000 : Int64))) fun S1 =>
bnd (f2_asLead N a1 S1) fun r2 S3 =>
some (((r2 + a1), S3))
set_option maxHeartbeats 1000000 in
theorem t2_asGold {E : En} {X : Cx} {Q : State → Prop} {N : Nat} {a1 : Int32} {S : Mem} {o : (Int32 × Mem)} (hF : Fx E X cX2_asGold RX2 2 (some .int) 4) (h : f2_asGold N a1 S = some o) (hC : Q = RQ E X (some (.int o.1)) o.2) : J E X Q S 0 [(0, .ref (eA E 38)), (1, .int a1)] [] := by
  unfold f2_asGold at h
  refine j_aload_n hF rfl 0 rfl dX2_asGold_0 ?_
  refine j_dup hF rfl dX2_asGold_1 ?_
  refine gf2_2 hF (by decide) (s_38 E _) rfl bw_1_151 dX2_asGold_2 ?_
  refine j_ldc2 (v := (10000 : Int64)) hF bw_4_75 dX2_asGold_5 ?_
  refine j_ladd hF dX2_asGold_8 ?_
  refine pf2_2 hF (by decide) (s_38 E _) (s_38 E _) (Nat.le_of_ble_eq_true rfl) bw_1_151 dX2_asGold_9 ?_
  refine j_nmM h (fun S1 h => ?_)
  refine j_aload_n hF rfl 0 rfl dX2_asGold_12 ?_
  refine j_iload_n hF rfl 1 rfl dX2_asGold_13 ?_
  obtain ⟨r2, S3, hr2, h⟩ := bnd_some h
  refine j_callV_i (As := [.int a1]) (st := []) hF rfl mv_2_asLead (by decide) (s_38 E _) rfl bw_4_60 rfl (by decide) (Nat.le_of_ble_eq_true rfl) dX2_asGold_14 (c2_asLead hr2) ?_
  refine j_iload_n hF rfl 1 rfl dX2_asGold_17 ?_
  refine j_iadd hF dX2_asGold_18 ?_
  obtain rfl := ret1 h
  exact j_iret hF hC dX2_asGold_19
set_option maxHeartbeats 1000000 in
theorem c2_asGold {E : En} {N : Nat} {a1 : Int32} {S So : Mem} {ro : Int32} (h : f2_asGold N a1 S = some (ro, So)) : CT E yX2_asGold cX2_asGold 2 (some .int) 4 [.ref (eA E 38), .int a1] S (some (.int ro)) So :=
  CT_of (by decide) (Nat.le_of_ble_eq_true rfl) (fun X hF => t2_asGold hF h rfl)
def f0_linesWith_15_L4 (N : Nat) (v1 : Int32) (v2 : Int32) (v3 : Int32) (S : Mem) : Option ((Int32 × Int32) ⊕ (Int32)) :=
if ((S 15).1 3) ≤ v3 then
some (.inr (v2))
else
bnp (f0_setOf_15 N v3 S) fun r1 =>
lt_ (v2 + ((r1 >>> (v1 &&& 31)) &&& (1 : Int32))) fun x2 =>
lt_ (v3 + (1 : Int32)) fun x3 =>
some (.inl (x2, x3))
def f0_linesWith_15_b30 (N : Nat) (v2 : Int32) (S : Mem) : Option Int32 :=
some (v2)
def f0_linesWith_15 (N : Nat) (a1 : Int32) (S : Mem) : Option Int32 :=
bnp (lp N (fun s => f0_linesWith_15_L4 N a1 s.1 s.2 S) ((0 : Int32), (0 : Int32))) fun z4 =>
f0_linesWith_15_b30 N z4 S
set_option maxHeartbeats 1000000 in
theorem t0_linesWith_15_L4 {E : En} {X : Cx} {Q : State → Prop} {N : Nat} {v1 : Int32} {v2 : Int32} {v3 : Int32} {S : Mem} {o : ((Int32 × Int32) ⊕ (Int32))} (hF : Fx E X cX0_linesWith RX0 4 (some .int) 2) (h : f0_linesWith_15_L4 N v1 v2 v3 S = some o) (hC : Sum.elim (fun (s : (Int32 × Int32)) => J E X Q S 4 [(0, .ref (eA E 15)), (1, .int v1), (2, .int s.1), (3, .int s.2)] []) (fun (x : (Int32)) => J E X Q S 30 [(2, .int x)] []) o) : J E X Q S 4 [(0, .ref (eA E 15)), (1, .int v1), (2, .int v2), (3, .int v3)] [] := by
  unfold f0_linesWith_15_L4 at h
  refine j_iload_n hF rfl 3 rfl dX0_linesWith_4 ?_
  refine j_aload_n hF rfl 0 rfl dX0_linesWith_5 ?_
  refine gf0_3 hF (by decide) (s_15 E _) rfl bw_1_118 dX0_linesWith_6 ?_
  refine j_icmp_ge (tgt := 30) hF h (by decide) dX0_linesWith_9 (fun h => ?_) (fun h => ?_)
  · obtain rfl := ret1 h
    refine j_sub (lv' := [(2, .int v2)]) hF [2] rfl ?_
    exact hC
  · refine j_iload_n hF rfl 2 rfl dX0_linesWith_12 ?_
    refine j_aload_n hF rfl 0 rfl dX0_linesWith_13 ?_
    refine j_iload_n hF rfl 3 rfl dX0_linesWith_14 ?_
    obtain ⟨r1, hr1, h⟩ := bnp_some h
    refine j_callV_i (As := [.int v3]) (st := [.int v2]) hF rfl mv_0_setOf (by decide) (s_15 E _) rfl bw_4_85 rfl (by decide) (Nat.le_of_ble_eq_true rfl) dX0_linesWith_15 (c0_setOf_15 hr1) ?_
    refine j_iload_n hF rfl 1 rfl dX0_linesWith_18 ?_
    refine j_ishr hF dX0_linesWith_19 ?_
    refine j_iconst (v := (1 : Int32)) hF (by decide) dX0_linesWith_20 ?_
    refine j_iand hF dX0_linesWith_21 ?_
    refine j_iadd hF dX0_linesWith_22 ?_
    refine j_istore_n (lv' := [(2, .int (v2 + ((r1 >>> (v1 &&& 31)) &&& (1 : Int32)))), (0, .ref (eA E 15)), (1, .int v1), (3, .int v3)]) hF rfl (by decide) rfl dX0_linesWith_23 ?_
    refine j_nmL h (fun x2 h => ?_)
    refine j_iinc (v := (v3 + (1 : Int32))) (lv' := [(3, .int (v3 + (1 : Int32))), (2, .int x2), (0, .ref (eA E 15)), (1, .int v1)]) (q := 3) hF rfl (congrArg (fun z => v3 + z) (by decide)) (by decide) rfl dX0_linesWith_24 ?_
    refine j_nmL h (fun x3 h => ?_)
    refine j_goto (tgt := 4) hF (by decide) dX0_linesWith_27 ?_
    obtain rfl := ret1 h
    refine j_sub (lv' := [(0, .ref (eA E 15)), (1, .int v1), (2, .int x2), (3, .int x3)]) hF [2, 3, 1, 0] rfl ?_
    exact hC
set_option maxHeartbeats 1000000 in
theorem t0_linesWith_15_b30 {E : En} {X : Cx} {Q : State → Prop} {N : Nat} {v2 : Int32} {S : Mem} {o : Int32} (hF : Fx E X cX0_linesWith RX0 4 (some .int) 2) (h : f0_linesWith_15_b30 N v2 S = some o) (hC : Q = RQ E X (some (.int o)) S) : J E X Q S 30 [(2, .int v2)] [] := by
  unfold f0_linesWith_15_b30 at h
  refine j_iload_n hF rfl 0 rfl dX0_linesWith_30 ?_
  obtain rfl := ret1 h
  exact j_iret hF hC dX0_linesWith_31
set_option maxHeartbeats 1000000 in
theorem t0_linesWith_15 {E : En} {X : Cx} {Q : State → Prop} {N : Nat} {a1 : Int32} {S : Mem} {o : Int32} (hF : Fx E X cX0_linesWith RX0 4 (some .int) 2) (h : f0_linesWith_15 N a1 S = some o) (hC : Q = RQ E X (some (.int o)) S) : J E X Q S 0 [(0, .ref (eA E 15)), (1, .int a1)] [] := by
  unfold f0_linesWith_15 at h
  refine j_iconst (v := (0 : Int32)) hF (by decide) dX0_linesWith_0 ?_
  refine j_istore_n (lv' := [(2, .int (0 : Int32)), (0, .ref (eA E 15)), (1, .int a1)]) hF rfl (by decide) rfl dX0_linesWith_1 ?_
  refine j_iconst (v := (0 : Int32)) hF (by decide) dX0_linesWith_2 ?_
  refine j_istore_n (lv' := [(3, .int (0 : Int32)), (2, .int (0 : Int32)), (0, .ref (eA E 15)), (1, .int a1)]) hF rfl (by decide) rfl dX0_linesWith_3 ?_
  obtain ⟨z4, hz4, h⟩ := bnp_some h
  refine j_sub (lv' := [(0, .ref (eA E 15)), (1, .int a1), (2, .int (0 : Int32)), (3, .int (0 : Int32))]) hF [2, 3, 1, 0] rfl ?_
  have hx : (fun (x : (Int32)) => J E X Q S 30 [(2, .int x)] []) z4 := by
    exact t0_linesWith_15_b30 hF h hC
  exact lp_rule (Jh := fun (s : (Int32 × Int32)) => J E X Q S 4 [(0, .ref (eA E 15)), (1, .int a1), (2, .int s.1), (3, .int s.2)] []) (C := fun (x : (Int32)) => J E X Q S 30 [(2, .int x)] []) (fun s o h hC => t0_linesWith_15_L4 hF h hC) N ((0 : Int32), (0 : Int32)) z4 hz4 hx
set_option maxHeartbeats 1000000 in
theorem c0_linesWith_15 {E : En} {N : Nat} {a1 : Int32} {S : Mem} {ro : Int32} (h : f0_linesWith_15 N a1 S = some ro) : CT E yX0_linesWith cX0_linesWith 4 (some .int) 2 [.ref (eA E 15), .int a1] S (some (.int ro)) S :=
  CT_of (by decide) (Nat.le_of_ble_eq_true rfl) (fun X hF => t0_linesWith_15 hF h rfl)
def f2_asBaby (N : Nat) (a1 : Int32) (S : Mem) : Option (Int32 × Mem) :=
lt_ (wrL S 38 ((S 38).2 + (100000 : Int64))) fun S1 =>
bnd (f2_asThing N a1 S1) fun r2 S3 =>
bnp (f0_linesWith_15 N a1 S3) fun r4 =>
some (((r2 + r4), S3))
set_option maxHeartbeats 1000000 in
theorem t2_asBaby {E : En} {X : Cx} {Q : State → Prop} {N : Nat} {a1 : Int32} {S : Mem} {o : (Int32 × Mem)} (hF : Fx E X cX2_asBaby RX2 2 (some .int) 3) (h : f2_asBaby N a1 S = some o) (hC : Q = RQ E X (some (.int o.1)) o.2) : J E X Q S 0 [(0, .ref (eA E 38)), (1, .int a1)] [] := by
  unfold f2_asBaby at h
  refine j_aload_n hF rfl 0 rfl dX2_asBaby_0 ?_
  refine j_dup hF rfl dX2_asBaby_1 ?_
  refine gf2_2 hF (by decide) (s_38 E _) rfl bw_1_151 dX2_asBaby_2 ?_
  refine j_ldc2 (v := (100000 : Int64)) hF bw_4_80 dX2_asBaby_5 ?_
  refine j_ladd hF dX2_asBaby_8 ?_
  refine pf2_2 hF (by decide) (s_38 E _) (s_38 E _) (Nat.le_of_ble_eq_true rfl) bw_1_151 dX2_asBaby_9 ?_
  refine j_nmM h (fun S1 h => ?_)
  refine j_aload_n hF rfl 0 rfl dX2_asBaby_12 ?_
  refine j_iload_n hF rfl 1 rfl dX2_asBaby_13 ?_
  obtain ⟨r2, S3, hr2, h⟩ := bnd_some h
  refine j_callV_i (As := [.int a1]) (st := []) hF rfl mv_2_asThing (by decide) (s_38 E _) rfl bw_4_49 rfl (by decide) (Nat.le_of_ble_eq_true rfl) dX2_asBaby_14 (c2_asThing hr2) ?_
  refine j_aload_n hF rfl 0 rfl dX2_asBaby_17 ?_
  refine gf2_1 hF (by decide) (s_38 E _) rfl bw_1_150 dX2_asBaby_18 ?_
  refine j_iload_n hF rfl 1 rfl dX2_asBaby_21 ?_
  obtain ⟨r4, hr4, h⟩ := bnp_some h
  refine j_callV_i (As := [.int a1]) (st := [.int r2]) hF rfl mv_0_linesWith (by decide) (s_15 E _) rfl bw_4_81 rfl (by decide) (Nat.le_of_ble_eq_true rfl) dX2_asBaby_22 (c0_linesWith_15 hr4) ?_
  refine j_iadd hF dX2_asBaby_25 ?_
  obtain rfl := ret1 h
  exact j_iret hF hC dX2_asBaby_26
set_option maxHeartbeats 1000000 in
theorem c2_asBaby {E : En} {N : Nat} {a1 : Int32} {S So : Mem} {ro : Int32} (h : f2_asBaby N a1 S = some (ro, So)) : CT E yX2_asBaby cX2_asBaby 2 (some .int) 3 [.ref (eA E 38), .int a1] S (some (.int ro)) So :=
  CT_of (by decide) (Nat.le_of_ble_eq_true rfl) (fun X hF => t2_asBaby hF h rfl)
def f2_markAs (N : Nat) (a1 : Int32) (a2 : Int32) (S : Mem) : Option (Int32 × Mem) :=
if a1 = (0 : Int32) then
bnd (f2_asThing N a2 S) fun r1 S2 =>
some ((r1, S2))
else
if a1 = (1 : Int32) then
bnd (f2_asSack N a2 S) fun r3 S4 =>
some ((r3, S4))
else
if a1 = (2 : Int32) then
bnd (f2_asLead N a2 S) fun r5 S6 =>
some ((r5, S6))
else
if a1 = (3 : Int32) then
bnd (f2_asFlour N a2 S) fun r7 S8 =>
some ((r7, S8))
else
if a1 = (4 : Int32) then
bnd (f2_asGold N a2 S) fun r9 S10 =>
some ((r9, S10))
else
if a1 = (5 : Int32) then
bnd (f2_asBaby N a2 S) fun r11 S12 =>
some ((r11, S12))
else
some (((-1000000 : Int32), S))
set_option maxHeartbeats 1000000 in
theorem t2_markAs {E : En} {X : Cx} {Q : State → Prop} {N : Nat} {a1 : Int32} {a2 : Int32} {S : Mem} {o : (Int32 × Mem)} (hF : Fx E X cX2_markAs RX2 3 (some .int) 5) (h : f2_markAs N a1 a2 S = some o) (hC : Q = RQ E X (some (.int o.1)) o.2) : J E X Q S 0 [(0, .ref (eA E 38)), (1, .int a1), (2, .int a2)] [] := by
  unfold f2_markAs at h
  refine j_iload_n hF rfl 1 rfl dX2_markAs_0 ?_
  by_cases c0 : a1 = (0 : Int32)
  · rw [if_pos c0] at h
    refine j_tswIn (tgt := 40) hF c0 (by decide) (by decide) rfl (by decide) dX2_markAs_1 ?_
    refine j_aload_n hF rfl 0 rfl dX2_markAs_40 ?_
    refine j_iload_n hF rfl 2 rfl dX2_markAs_41 ?_
    obtain ⟨r1, S2, hr1, h⟩ := bnd_some h
    refine j_callV_i (As := [.int a2]) (st := []) hF rfl mv_2_asThing (by decide) (s_38 E _) rfl bw_4_49 rfl (by decide) (Nat.le_of_ble_eq_true rfl) dX2_markAs_42 (c2_asThing hr1) ?_
    obtain rfl := ret1 h
    exact j_iret hF hC dX2_markAs_45
  · rw [if_neg c0] at h
    by_cases c1 : a1 = (1 : Int32)
    · rw [if_pos c1] at h
      refine j_tswIn (tgt := 46) hF c1 (by decide) (by decide) rfl (by decide) dX2_markAs_1 ?_
      refine j_aload_n hF rfl 0 rfl dX2_markAs_46 ?_
      refine j_iload_n hF rfl 2 rfl dX2_markAs_47 ?_
      obtain ⟨r3, S4, hr3, h⟩ := bnd_some h
      refine j_callV_i (As := [.int a2]) (st := []) hF rfl mv_2_asSack (by decide) (s_38 E _) rfl bw_4_54 rfl (by decide) (Nat.le_of_ble_eq_true rfl) dX2_markAs_48 (c2_asSack hr3) ?_
      obtain rfl := ret1 h
      exact j_iret hF hC dX2_markAs_51
    · rw [if_neg c1] at h
      by_cases c2 : a1 = (2 : Int32)
      · rw [if_pos c2] at h
        refine j_tswIn (tgt := 52) hF c2 (by decide) (by decide) rfl (by decide) dX2_markAs_1 ?_
        refine j_aload_n hF rfl 0 rfl dX2_markAs_52 ?_
        refine j_iload_n hF rfl 2 rfl dX2_markAs_53 ?_
        obtain ⟨r5, S6, hr5, h⟩ := bnd_some h
        refine j_callV_i (As := [.int a2]) (st := []) hF rfl mv_2_asLead (by decide) (s_38 E _) rfl bw_4_60 rfl (by decide) (Nat.le_of_ble_eq_true rfl) dX2_markAs_54 (c2_asLead hr5) ?_
        obtain rfl := ret1 h
        exact j_iret hF hC dX2_markAs_57
      · rw [if_neg c2] at h
        by_cases c3 : a1 = (3 : Int32)
        · rw [if_pos c3] at h
          refine j_tswIn (tgt := 58) hF c3 (by decide) (by decide) rfl (by decide) dX2_markAs_1 ?_
          refine j_aload_n hF rfl 0 rfl dX2_markAs_58 ?_
          refine j_iload_n hF rfl 2 rfl dX2_markAs_59 ?_
          obtain ⟨r7, S8, hr7, h⟩ := bnd_some h
          refine j_callV_i (As := [.int a2]) (st := []) hF rfl mv_2_asFlour (by decide) (s_38 E _) rfl bw_4_65 rfl (by decide) (Nat.le_of_ble_eq_true rfl) dX2_markAs_60 (c2_asFlour hr7) ?_
          obtain rfl := ret1 h
          exact j_iret hF hC dX2_markAs_63
        · rw [if_neg c3] at h
          by_cases c4 : a1 = (4 : Int32)
          · rw [if_pos c4] at h
            refine j_tswIn (tgt := 64) hF c4 (by decide) (by decide) rfl (by decide) dX2_markAs_1 ?_
            refine j_aload_n hF rfl 0 rfl dX2_markAs_64 ?_
            refine j_iload_n hF rfl 2 rfl dX2_markAs_65 ?_
            obtain ⟨r9, S10, hr9, h⟩ := bnd_some h
            refine j_callV_i (As := [.int a2]) (st := []) hF rfl mv_2_asGold (by decide) (s_38 E _) rfl bw_4_71 rfl (by decide) (Nat.le_of_ble_eq_true rfl) dX2_markAs_66 (c2_asGold hr9) ?_
            obtain rfl := ret1 h
            exact j_iret hF hC dX2_markAs_69
          · rw [if_neg c4] at h
            by_cases c5 : a1 = (5 : Int32)
            · rw [if_pos c5] at h
              refine j_tswIn (tgt := 70) hF c5 (by decide) (by decide) rfl (by decide) dX2_markAs_1 ?_
              refine j_aload_n hF rfl 0 rfl dX2_markAs_70 ?_
              refine j_iload_n hF rfl 2 rfl dX2_markAs_71 ?_
              obtain ⟨r11, S12, hr11, h⟩ := bnd_some h
              refine j_callV_i (As := [.int a2]) (st := []) hF rfl mv_2_asBaby (by decide) (s_38 E _) rfl bw_4_76 rfl (by decide) (Nat.le_of_ble_eq_true rfl) dX2_markAs_72 (c2_asBaby hr11) ?_
              obtain rfl := ret1 h
              exact j_iret hF hC dX2_markAs_75
            · rw [if_neg c5] at h
              have e0 : a1.toInt ≠ 0 := ne_toInt c0
              have e1 : a1.toInt ≠ 1 := ne_toInt c1
              have e2 : a1.toInt ≠ 2 := ne_toInt c2
              have e3 : a1.toInt ≠ 3 := ne_toInt c3
              have e4 : a1.toInt ≠ 4 := ne_toInt c4
              have e5 : a1.toInt ≠ 5 := ne_toInt c5
              refine j_tswOut (tgt := 76) hF (by omega) (by decide) dX2_markAs_1 ?_
              refine j_ldc (v := (-1000000 : Int32)) hF bw_4_86 dX2_markAs_76 ?_
              obtain rfl := ret1 h
              exact j_iret hF hC dX2_markAs_78
set_option maxHeartbeats 1000000 in
theorem c2_markAs {E : En} {N : Nat} {a1 : Int32} {a2 : Int32} {S So : Mem} {ro : Int32} (h : f2_markAs N a1 a2 S = some (ro, So)) : CT E yX2_markAs cX2_markAs 3 (some .int) 5 [.ref (eA E 38), .int a1, .int a2] S (some (.int ro)) So :=
  CT_of (by decide) (Nat.le_of_ble_eq_true rfl) (fun X hF => t2_markAs hF h rfl)
def f9_mark (N : Nat) (a1 : Int32) (a2 : Int32) (S : Mem) : Option (Int32 × Mem) :=
bnp (f9_isBetween N a1 (0 : Int32) (5 : Int32) S) fun r1 =>
if r1 = 0 then
some (((-1000000 : Int32), S))
else
bnp (f6_things_10 N S) fun r2 =>
bnp (f9_isBetween N a2 (0 : Int32) (r2 - (1 : Int32)) S) fun r3 =>
if r3 = 0 then
some (((-1000000 : Int32), S))
else
bnd (f2_markAs N a1 a2 S) fun r4 S5 =>
some ((r4, S5))
set_option maxHeartbeats 1000000 in
theorem t9_mark {E : En} {X : Cx} {Q : State → Prop} {N : Nat} {a1 : Int32} {a2 : Int32} {S : Mem} {o : (Int32 × Mem)} (hF : Fx E X cX9_mark RX9 3 (some .int) 6) (h : f9_mark N a1 a2 S = some o) (hC : Q = RQ E X (some (.int o.1)) o.2) : J E X Q S 0 [(0, .ref (eA E 0)), (1, .int a1), (2, .int a2)] [] := by
  unfold f9_mark at h
  refine j_iload_n hF rfl 1 rfl dX9_mark_0 ?_
  refine j_iconst (v := (0 : Int32)) hF (by decide) dX9_mark_1 ?_
  refine j_iconst (v := (5 : Int32)) hF (by decide) dX9_mark_2 ?_
  obtain ⟨r1, hr1, h⟩ := bnp_some h
  refine j_callS_i (As := [.int a1, .int (0 : Int32), .int (5 : Int32)]) (st := []) hF rfl mv_9_isBetween bw_2_219 rfl (by decide) (Nat.le_of_ble_eq_true rfl) dX9_mark_3 (c9_isBetween hr1) ?_
  refine j_if_eq (tgt := 26) hF h (by decide) dX9_mark_6 (fun h => ?_) (fun h => ?_)
  · refine j_ldc (v := (-1000000 : Int32)) hF bw_4_44 dX9_mark_26 ?_
    obtain rfl := ret1 h
    exact j_iret hF hC dX9_mark_28
  · refine j_iload_n hF rfl 2 rfl dX9_mark_9 ?_
    refine j_iconst (v := (0 : Int32)) hF (by decide) dX9_mark_10 ?_
    refine j_aload_n hF rfl 0 rfl dX9_mark_11 ?_
    refine gf9_2 hF (by decide) (s_0 E _) rfl bw_1_227 dX9_mark_12 ?_
    obtain ⟨r2, hr2, h⟩ := bnp_some h
    refine j_callV_i (As := []) (st := [.int (0 : Int32), .int a2]) hF rfl mv_6_things (by decide) (s_10 E _) rfl bw_2_218 rfl (by decide) (Nat.le_of_ble_eq_true rfl) dX9_mark_15 (c6_things_10 hr2) ?_
    refine j_iconst (v := (1 : Int32)) hF (by decide) dX9_mark_18 ?_
    refine j_isub hF dX9_mark_19 ?_
    obtain ⟨r3, hr3, h⟩ := bnp_some h
    refine j_callS_i (As := [.int a2, .int (0 : Int32), .int (r2 - (1 : Int32))]) (st := []) hF rfl mv_9_isBetween bw_2_219 rfl (by decide) (Nat.le_of_ble_eq_true rfl) dX9_mark_20 (c9_isBetween hr3) ?_
    refine j_if_ne (tgt := 29) hF h (by decide) dX9_mark_23 (fun h => ?_) (fun h => ?_)
    · refine j_aload_n hF rfl 0 rfl dX9_mark_29 ?_
      refine gf9_6 hF (by decide) (s_0 E _) rfl bw_1_231 dX9_mark_30 ?_
      refine j_iload_n hF rfl 1 rfl dX9_mark_33 ?_
      refine j_iload_n hF rfl 2 rfl dX9_mark_34 ?_
      obtain ⟨r4, S5, hr4, h⟩ := bnd_some h
      refine j_callV_i (As := [.int a1, .int a2]) (st := []) hF rfl mv_2_markAs (by decide) (s_38 E _) rfl bw_4_45 rfl (by decide) (Nat.le_of_ble_eq_true rfl) dX9_mark_35 (c2_markAs hr4) ?_
      obtain rfl := ret1 h
      exact j_iret hF hC dX9_mark_38
    · refine j_ldc (v := (-1000000 : Int32)) hF bw_4_44 dX9_mark_26 ?_
      obtain rfl := ret1 h
      exact j_iret hF hC dX9_mark_28
set_option maxHeartbeats 1000000 in
theorem c9_mark {E : En} {N : Nat} {a1 : Int32} {a2 : Int32} {S So : Mem} {ro : Int32} (h : f9_mark N a1 a2 S = some (ro, So)) : CT E yX9_mark cX9_mark 3 (some .int) 6 [.ref (eA E 0), .int a1, .int a2] S (some (.int ro)) So :=
  CT_of (by decide) (Nat.le_of_ble_eq_true rfl) (fun X hF => t9_mark hF h rfl)
def f0_copyFrom_23_15 (N : Nat) (S : Mem) : Option (Unit × Mem) :=
bnd (f5_copyFrom N 24 12 16 12 S) fun r1 S2 =>
bnd (f5_copyFrom N 26 12 18 12 S2) fun r3 S4 =>
bnd (f5_copyFrom N 28 12 20 12 S4) fun r5 S6 =>
lt_ (wr S6 23 3 ((S6 15).1 3)) fun S7 =>
some (((), S7))
set_option maxHeartbeats 1000000 in
theorem t0_copyFrom_23_15 {E : En} {X : Cx} {Q : State → Prop} {N : Nat} {S : Mem} {o : (Unit × Mem)} (hF : Fx E X cX0_copyFrom RX0 2 none 2) (h : f0_copyFrom_23_15 N S = some o) (hC : Q = RQ E X (none) o.2) : J E X Q S 0 [(0, .ref (eA E 23)), (1, .ref (eA E 15))] [] := by
  unfold f0_copyFrom_23_15 at h
  refine j_aload_n hF rfl 0 rfl dX0_copyFrom_0 ?_
  refine gf0_0 hF (by decide) (s_23 E _) rfl bw_1_115 dX0_copyFrom_1 ?_
  refine j_aload_n hF rfl 1 rfl dX0_copyFrom_4 ?_
  refine gf0_0 hF (by decide) (s_15 E _) rfl bw_1_115 dX0_copyFrom_5 ?_
  obtain ⟨r1, S2, hr1, h⟩ := bnd_some h
  refine j_callV_v (As := [.ref (eA E 16)]) (st := []) hF rfl mv_5_copyFrom (by decide) (s_24 E _) rfl bw_4_103 rfl (by decide) (Nat.le_of_ble_eq_true rfl) dX0_copyFrom_8 (c5_copyFrom (ra_24 E) (ra_16 E) hr1) ?_
  refine j_aload_n hF rfl 0 rfl dX0_copyFrom_11 ?_
  refine gf0_1 hF (by decide) (s_23 E _) rfl bw_1_116 dX0_copyFrom_12 ?_
  refine j_aload_n hF rfl 1 rfl dX0_copyFrom_15 ?_
  refine gf0_1 hF (by decide) (s_15 E _) rfl bw_1_116 dX0_copyFrom_16 ?_
  obtain ⟨r3, S4, hr3, h⟩ := bnd_some h
  refine j_callV_v (As := [.ref (eA E 18)]) (st := []) hF rfl mv_5_copyFrom (by decide) (s_26 E _) rfl bw_4_103 rfl (by decide) (Nat.le_of_ble_eq_true rfl) dX0_copyFrom_19 (c5_copyFrom (ra_26 E) (ra_18 E) hr3) ?_
  refine j_aload_n hF rfl 0 rfl dX0_copyFrom_22 ?_
  refine gf0_2 hF (by decide) (s_23 E _) rfl bw_1_117 dX0_copyFrom_23 ?_
  refine j_aload_n hF rfl 1 rfl dX0_copyFrom_26 ?_
  refine gf0_2 hF (by decide) (s_15 E _) rfl bw_1_117 dX0_copyFrom_27 ?_
  obtain ⟨r5, S6, hr5, h⟩ := bnd_some h
  refine j_callV_v (As := [.ref (eA E 20)]) (st := []) hF rfl mv_5_copyFrom (by decide) (s_28 E _) rfl bw_4_103 rfl (by decide) (Nat.le_of_ble_eq_true rfl) dX0_copyFrom_30 (c5_copyFrom (ra_28 E) (ra_20 E) hr5) ?_
  refine j_aload_n hF rfl 0 rfl dX0_copyFrom_33 ?_
  refine j_aload_n hF rfl 1 rfl dX0_copyFrom_34 ?_
  refine gf0_3 hF (by decide) (s_15 E _) rfl bw_1_118 dX0_copyFrom_35 ?_
  refine pf0_3 hF (by decide) (s_23 E _) (s_23 E _) (Nat.le_of_ble_eq_true rfl) bw_1_118 dX0_copyFrom_38 ?_
  refine j_nmM h (fun S7 h => ?_)
  obtain rfl := ret1 h
  exact j_vret hF hC dX0_copyFrom_41
set_option maxHeartbeats 1000000 in
theorem c0_copyFrom_23_15 {E : En} {N : Nat} {S So : Mem} {ro : Unit} (h : f0_copyFrom_23_15 N S = some (ro, So)) : CT E yX0_copyFrom cX0_copyFrom 2 none 2 [.ref (eA E 23), .ref (eA E 15)] S (none) So :=
  CT_of (by decide) (Nat.le_of_ble_eq_true rfl) (fun X hF => t0_copyFrom_23_15 hF h rfl)
def f1_take_22_15 (N : Nat) (S : Mem) : Option (Unit × Mem) :=
bnd (f0_copyFrom_23_15 N S) fun r1 S2 =>
lt_ (wr S2 22 1 (1 : Int32)) fun S3 =>
some (((), S3))
set_option maxHeartbeats 1000000 in
theorem t1_take_22_15 {E : En} {X : Cx} {Q : State → Prop} {N : Nat} {S : Mem} {o : (Unit × Mem)} (hF : Fx E X cX1_take RX1 2 none 3) (h : f1_take_22_15 N S = some o) (hC : Q = RQ E X (none) o.2) : J E X Q S 0 [(0, .ref (eA E 22)), (1, .ref (eA E 15))] [] := by
  unfold f1_take_22_15 at h
  refine j_aload_n hF rfl 0 rfl dX1_take_0 ?_
  refine gf1_0 hF (by decide) (s_22 E _) rfl bw_1_136 dX1_take_1 ?_
  refine j_aload_n hF rfl 1 rfl dX1_take_4 ?_
  obtain ⟨r1, S2, hr1, h⟩ := bnd_some h
  refine j_callV_v (As := [.ref (eA E 15)]) (st := []) hF rfl mv_0_copyFrom (by decide) (s_23 E _) rfl bw_4_99 rfl (by decide) (Nat.le_of_ble_eq_true rfl) dX1_take_5 (c0_copyFrom_23_15 hr1) ?_
  refine j_aload_n hF rfl 0 rfl dX1_take_8 ?_
  refine j_iconst (v := (1 : Int32)) hF (by decide) dX1_take_9 ?_
  refine pf1_1 hF (by decide) (by decide) (by decide) (s_22 E _) (s_22 E _) (Nat.le_of_ble_eq_true rfl) bw_1_137 dX1_take_10 ?_
  refine j_nmM h (fun S3 h => ?_)
  obtain rfl := ret1 h
  exact j_vret hF hC dX1_take_13
set_option maxHeartbeats 1000000 in
theorem c1_take_22_15 {E : En} {N : Nat} {S So : Mem} {ro : Unit} (h : f1_take_22_15 N S = some (ro, So)) : CT E yX1_take cX1_take 2 none 3 [.ref (eA E 22), .ref (eA E 15)] S (none) So :=
  CT_of (by decide) (Nat.le_of_ble_eq_true rfl) (fun X hF => t1_take_22_15 hF h rfl)
def f0_copyFrom_31_15 (N : Nat) (S : Mem) : Option (Unit × Mem) :=
bnd (f5_copyFrom N 32 12 16 12 S) fun r1 S2 =>
bnd (f5_copyFrom N 34 12 18 12 S2) fun r3 S4 =>
bnd (f5_copyFrom N 36 12 20 12 S4) fun r5 S6 =>
lt_ (wr S6 31 3 ((S6 15).1 3)) fun S7 =>
some (((), S7))
set_option maxHeartbeats 1000000 in
theorem t0_copyFrom_31_15 {E : En} {X : Cx} {Q : State → Prop} {N : Nat} {S : Mem} {o : (Unit × Mem)} (hF : Fx E X cX0_copyFrom RX0 2 none 2) (h : f0_copyFrom_31_15 N S = some o) (hC : Q = RQ E X (none) o.2) : J E X Q S 0 [(0, .ref (eA E 31)), (1, .ref (eA E 15))] [] := by
  unfold f0_copyFrom_31_15 at h
  refine j_aload_n hF rfl 0 rfl dX0_copyFrom_0 ?_
  refine gf0_0 hF (by decide) (s_31 E _) rfl bw_1_115 dX0_copyFrom_1 ?_
  refine j_aload_n hF rfl 1 rfl dX0_copyFrom_4 ?_
  refine gf0_0 hF (by decide) (s_15 E _) rfl bw_1_115 dX0_copyFrom_5 ?_
  obtain ⟨r1, S2, hr1, h⟩ := bnd_some h
  refine j_callV_v (As := [.ref (eA E 16)]) (st := []) hF rfl mv_5_copyFrom (by decide) (s_32 E _) rfl bw_4_103 rfl (by decide) (Nat.le_of_ble_eq_true rfl) dX0_copyFrom_8 (c5_copyFrom (ra_32 E) (ra_16 E) hr1) ?_
  refine j_aload_n hF rfl 0 rfl dX0_copyFrom_11 ?_
  refine gf0_1 hF (by decide) (s_31 E _) rfl bw_1_116 dX0_copyFrom_12 ?_
  refine j_aload_n hF rfl 1 rfl dX0_copyFrom_15 ?_
  refine gf0_1 hF (by decide) (s_15 E _) rfl bw_1_116 dX0_copyFrom_16 ?_
  obtain ⟨r3, S4, hr3, h⟩ := bnd_some h
  refine j_callV_v (As := [.ref (eA E 18)]) (st := []) hF rfl mv_5_copyFrom (by decide) (s_34 E _) rfl bw_4_103 rfl (by decide) (Nat.le_of_ble_eq_true rfl) dX0_copyFrom_19 (c5_copyFrom (ra_34 E) (ra_18 E) hr3) ?_
  refine j_aload_n hF rfl 0 rfl dX0_copyFrom_22 ?_
  refine gf0_2 hF (by decide) (s_31 E _) rfl bw_1_117 dX0_copyFrom_23 ?_
  refine j_aload_n hF rfl 1 rfl dX0_copyFrom_26 ?_
  refine gf0_2 hF (by decide) (s_15 E _) rfl bw_1_117 dX0_copyFrom_27 ?_
  obtain ⟨r5, S6, hr5, h⟩ := bnd_some h
  refine j_callV_v (As := [.ref (eA E 20)]) (st := []) hF rfl mv_5_copyFrom (by decide) (s_36 E _) rfl bw_4_103 rfl (by decide) (Nat.le_of_ble_eq_true rfl) dX0_copyFrom_30 (c5_copyFrom (ra_36 E) (ra_20 E) hr5) ?_
  refine j_aload_n hF rfl 0 rfl dX0_copyFrom_33 ?_
  refine j_aload_n hF rfl 1 rfl dX0_copyFrom_34 ?_
  refine gf0_3 hF (by decide) (s_15 E _) rfl bw_1_118 dX0_copyFrom_35 ?_
  refine pf0_3 hF (by decide) (s_31 E _) (s_31 E _) (Nat.le_of_ble_eq_true rfl) bw_1_118 dX0_copyFrom_38 ?_
  refine j_nmM h (fun S7 h => ?_)
  obtain rfl := ret1 h
  exact j_vret hF hC dX0_copyFrom_41
set_option maxHeartbeats 1000000 in
theorem c0_copyFrom_31_15 {E : En} {N : Nat} {S So : Mem} {ro : Unit} (h : f0_copyFrom_31_15 N S = some (ro, So)) : CT E yX0_copyFrom cX0_copyFrom 2 none 2 [.ref (eA E 31), .ref (eA E 15)] S (none) So :=
  CT_of (by decide) (Nat.le_of_ble_eq_true rfl) (fun X hF => t0_copyFrom_31_15 hF h rfl)
def f1_take_30_15 (N : Nat) (S : Mem) : Option (Unit × Mem) :=
bnd (f0_copyFrom_31_15 N S) fun r1 S2 =>
lt_ (wr S2 30 1 (1 : Int32)) fun S3 =>
some (((), S3))
set_option maxHeartbeats 1000000 in
theorem t1_take_30_15 {E : En} {X : Cx} {Q : State → Prop} {N : Nat} {S : Mem} {o : (Unit × Mem)} (hF : Fx E X cX1_take RX1 2 none 3) (h : f1_take_30_15 N S = some o) (hC : Q = RQ E X (none) o.2) : J E X Q S 0 [(0, .ref (eA E 30)), (1, .ref (eA E 15))] [] := by
  unfold f1_take_30_15 at h
  refine j_aload_n hF rfl 0 rfl dX1_take_0 ?_
  refine gf1_0 hF (by decide) (s_30 E _) rfl bw_1_136 dX1_take_1 ?_
  refine j_aload_n hF rfl 1 rfl dX1_take_4 ?_
  obtain ⟨r1, S2, hr1, h⟩ := bnd_some h
  refine j_callV_v (As := [.ref (eA E 15)]) (st := []) hF rfl mv_0_copyFrom (by decide) (s_31 E _) rfl bw_4_99 rfl (by decide) (Nat.le_of_ble_eq_true rfl) dX1_take_5 (c0_copyFrom_31_15 hr1) ?_
  refine j_aload_n hF rfl 0 rfl dX1_take_8 ?_
  refine j_iconst (v := (1 : Int32)) hF (by decide) dX1_take_9 ?_
  refine pf1_1 hF (by decide) (by decide) (by decide) (s_30 E _) (s_30 E _) (Nat.le_of_ble_eq_true rfl) bw_1_137 dX1_take_10 ?_
  refine j_nmM h (fun S3 h => ?_)
  obtain rfl := ret1 h
  exact j_vret hF hC dX1_take_13
set_option maxHeartbeats 1000000 in
theorem c1_take_30_15 {E : En} {N : Nat} {S So : Mem} {ro : Unit} (h : f1_take_30_15 N S = some (ro, So)) : CT E yX1_take cX1_take 2 none 3 [.ref (eA E 30), .ref (eA E 15)] S (none) So :=
  CT_of (by decide) (Nat.le_of_ble_eq_true rfl) (fun X hF => t1_take_30_15 hF h rfl)
def f9_keep (N : Nat) (a1 : Int32) (S : Mem) : Option (Int32 × Mem) :=
bnp (f9_isBetween N a1 (0 : Int32) (1 : Int32) S) fun r1 =>
if r1 = 0 then
some (((-1 : Int32), S))
else
if a1 = 0 then
bnd (f1_take_22_15 N S) fun r2 S3 =>
bnp (f0_lines_15 N S3) fun r4 =>
some ((r4, S3))
else
bnd (f1_take_30_15 N S) fun r5 S6 =>
bnp (f0_lines_15 N S6) fun r7 =>
some ((r7, S6))
set_option maxHeartbeats 1000000 in
theorem t9_keep {E : En} {X : Cx} {Q : State → Prop} {N : Nat} {a1 : Int32} {S : Mem} {o : (Int32 × Mem)} (hF : Fx E X cX9_keep RX9 2 (some .int) 4) (h : f9_keep N a1 S = some o) (hC : Q = RQ E X (some (.int o.1)) o.2) : J E X Q S 0 [(0, .ref (eA E 0)), (1, .int a1)] [] := by
  unfold f9_keep at h
  refine j_iload_n hF rfl 1 rfl dX9_keep_0 ?_
  refine j_iconst (v := (0 : Int32)) hF (by decide) dX9_keep_1 ?_
  refine j_iconst (v := (1 : Int32)) hF (by decide) dX9_keep_2 ?_
  obtain ⟨r1, hr1, h⟩ := bnp_some h
  refine j_callS_i (As := [.int a1, .int (0 : Int32), .int (1 : Int32)]) (st := []) hF rfl mv_9_isBetween bw_2_219 rfl (by decide) (Nat.le_of_ble_eq_true rfl) dX9_keep_3 (c9_isBetween hr1) ?_
  refine j_if_ne (tgt := 11) hF h (by decide) dX9_keep_6 (fun h => ?_) (fun h => ?_)
  · refine j_aload_n hF rfl 0 rfl dX9_keep_11 ?_
    refine j_iload_n hF rfl 1 rfl dX9_keep_12 ?_
    by_cases hc : a1 = 0
    · rw [if_pos hc] at h
      refine j_callV_r (As := [.int a1]) (st := []) hF rfl mv_9_imageOf (by decide) (s_0 E _) rfl bw_4_91 rfl (by decide) (Nat.le_of_ble_eq_true rfl) dX9_keep_13 (c9_imageOf_0 hc) ?_
      refine j_aload_n hF rfl 0 rfl dX9_keep_16 ?_
      refine gf9_3 hF (by decide) (s_0 E _) rfl bw_1_228 dX9_keep_17 ?_
      obtain ⟨r2, S3, hr2, h⟩ := bnd_some h
      refine j_callV_v (As := [.ref (eA E 15)]) (st := []) hF rfl mv_1_take (by decide) (s_22 E _) rfl bw_4_95 rfl (by decide) (Nat.le_of_ble_eq_true rfl) dX9_keep_20 (c1_take_22_15 hr2) ?_
      refine j_aload_n hF rfl 0 rfl dX9_keep_23 ?_
      refine gf9_3 hF (by decide) (s_0 E _) rfl bw_1_228 dX9_keep_24 ?_
      obtain ⟨r4, hr4, h⟩ := bnp_some h
      refine j_callV_i (As := []) (st := []) hF rfl mv_0_lines (by decide) (s_15 E _) rfl bw_3_27 rfl (by decide) (Nat.le_of_ble_eq_true rfl) dX9_keep_27 (c0_lines_15 hr4) ?_
      obtain rfl := ret1 h
      exact j_iret hF hC dX9_keep_30
    · rw [if_neg hc] at h
      refine j_callV_r (As := [.int a1]) (st := []) hF rfl mv_9_imageOf (by decide) (s_0 E _) rfl bw_4_91 rfl (by decide) (Nat.le_of_ble_eq_true rfl) dX9_keep_13 (c9_imageOf_1 hc) ?_
      refine j_aload_n hF rfl 0 rfl dX9_keep_16 ?_
      refine gf9_3 hF (by decide) (s_0 E _) rfl bw_1_228 dX9_keep_17 ?_
      obtain ⟨r5, S6, hr5, h⟩ := bnd_some h
      refine j_callV_v (As := [.ref (eA E 15)]) (st := []) hF rfl mv_1_take (by decide) (s_30 E _) rfl bw_4_95 rfl (by decide) (Nat.le_of_ble_eq_true rfl) dX9_keep_20 (c1_take_30_15 hr5) ?_
      refine j_aload_n hF rfl 0 rfl dX9_keep_23 ?_
      refine gf9_3 hF (by decide) (s_0 E _) rfl bw_1_228 dX9_keep_24 ?_
      obtain ⟨r7, hr7, h⟩ := bnp_some h
      refine j_callV_i (As := []) (st := []) hF rfl mv_0_lines (by decide) (s_15 E _) rfl bw_3_27 rfl (by decide) (Nat.le_of_ble_eq_true rfl) dX9_keep_27 (c0_lines_15 hr7) ?_
      obtain rfl := ret1 h
      exact j_iret hF hC dX9_keep_30
  · refine j_iconst (v := (-1 : Int32)) hF (by decide) dX9_keep_9 ?_
    obtain rfl := ret1 h
    exact j_iret hF hC dX9_keep_10
set_option maxHeartbeats 1000000 in
theorem c9_keep {E : En} {N : Nat} {a1 : Int32} {S So : Mem} {ro : Int32} (h : f9_keep N a1 S = some (ro, So)) : CT E yX9_keep cX9_keep 2 (some .int) 4 [.ref (eA E 0), .int a1] S (some (.int ro)) So :=
  CT_of (by decide) (Nat.le_of_ble_eq_true rfl) (fun X hF => t9_keep hF h rfl)
def f1_isKept_22 (N : Nat) (S : Mem) : Option Int32 :=
if ((S 22).1 1) = 0 ∨ ((S 22).1 1) = 1 then
some (((S 22).1 1)) else none
set_option maxHeartbeats 1000000 in
theorem t1_isKept_22 {E : En} {X : Cx} {Q : State → Prop} {N : Nat} {S : Mem} {o : Int32} (hF : Fx E X cX1_isKept RX1 1 (some .boolean) 0) (h : f1_isKept_22 N S = some o) (hC : Q = RQ E X (some (.int o)) S) : J E X Q S 0 [(0, .ref (eA E 22))] [] := by
  unfold f1_isKept_22 at h
  refine j_aload_n hF rfl 0 rfl dX1_isKept_0 ?_
  refine gf1_1 hF (by decide) (s_22 E _) rfl bw_1_137 dX1_isKept_1 ?_
  obtain ⟨hz, h⟩ := zg_some h
  obtain rfl := ret1 h
  exact j_ret_boolean hF (zg_nar hz) hC dX1_isKept_4
set_option maxHeartbeats 1000000 in
theorem c1_isKept_22 {E : En} {N : Nat} {S : Mem} {ro : Int32} (h : f1_isKept_22 N S = some ro) : CT E yX1_isKept cX1_isKept 1 (some .boolean) 0 [.ref (eA E 22)] S (some (.int ro)) S :=
  CT_of (by decide) (Nat.le_of_ble_eq_true rfl) (fun X hF => t1_isKept_22 hF h rfl)
def f1_kept_22 (N : Nat) (S : Mem) : Option Unit :=
some (())
set_option maxHeartbeats 1000000 in
theorem t1_kept_22 {E : En} {X : Cx} {Q : State → Prop} {N : Nat} {S : Mem} {o : Unit} (hF : Fx E X cX1_kept RX1 1 (some (.object "SelfScale$Book")) 0) (h : f1_kept_22 N S = some o) (hC : Q = RQ E X (some (.ref (eA E 23))) S) : J E X Q S 0 [(0, .ref (eA E 22))] [] := by
  unfold f1_kept_22 at h
  refine j_aload_n hF rfl 0 rfl dX1_kept_0 ?_
  refine gf1_0 hF (by decide) (s_22 E _) rfl bw_1_136 dX1_kept_1 ?_
  obtain rfl := ret1 h
  exact j_aret hF hC dX1_kept_4
set_option maxHeartbeats 1000000 in
theorem c1_kept_22 {E : En} {N : Nat} {S : Mem} {ro : Unit} (h : f1_kept_22 N S = some ro) : CT E yX1_kept cX1_kept 1 (some (.object "SelfScale$Book")) 0 [.ref (eA E 22)] S (some (.ref (eA E 23))) S :=
  CT_of (by decide) (Nat.le_of_ble_eq_true rfl) (fun X hF => t1_kept_22 hF h rfl)
def f0_copyFrom_15_23 (N : Nat) (S : Mem) : Option (Unit × Mem) :=
bnd (f5_copyFrom N 16 12 24 12 S) fun r1 S2 =>
bnd (f5_copyFrom N 18 12 26 12 S2) fun r3 S4 =>
bnd (f5_copyFrom N 20 12 28 12 S4) fun r5 S6 =>
lt_ (wr S6 15 3 ((S6 23).1 3)) fun S7 =>
some (((), S7))
set_option maxHeartbeats 1000000 in
theorem t0_copyFrom_15_23 {E : En} {X : Cx} {Q : State → Prop} {N : Nat} {S : Mem} {o : (Unit × Mem)} (hF : Fx E X cX0_copyFrom RX0 2 none 2) (h : f0_copyFrom_15_23 N S = some o) (hC : Q = RQ E X (none) o.2) : J E X Q S 0 [(0, .ref (eA E 15)), (1, .ref (eA E 23))] [] := by
  unfold f0_copyFrom_15_23 at h
  refine j_aload_n hF rfl 0 rfl dX0_copyFrom_0 ?_
  refine gf0_0 hF (by decide) (s_15 E _) rfl bw_1_115 dX0_copyFrom_1 ?_
  refine j_aload_n hF rfl 1 rfl dX0_copyFrom_4 ?_
  refine gf0_0 hF (by decide) (s_23 E _) rfl bw_1_115 dX0_copyFrom_5 ?_
  obtain ⟨r1, S2, hr1, h⟩ := bnd_some h
  refine j_callV_v (As := [.ref (eA E 24)]) (st := []) hF rfl mv_5_copyFrom (by decide) (s_16 E _) rfl bw_4_103 rfl (by decide) (Nat.le_of_ble_eq_true rfl) dX0_copyFrom_8 (c5_copyFrom (ra_16 E) (ra_24 E) hr1) ?_
  refine j_aload_n hF rfl 0 rfl dX0_copyFrom_11 ?_
  refine gf0_1 hF (by decide) (s_15 E _) rfl bw_1_116 dX0_copyFrom_12 ?_
  refine j_aload_n hF rfl 1 rfl dX0_copyFrom_15 ?_
  refine gf0_1 hF (by decide) (s_23 E _) rfl bw_1_116 dX0_copyFrom_16 ?_
  obtain ⟨r3, S4, hr3, h⟩ := bnd_some h
  refine j_callV_v (As := [.ref (eA E 26)]) (st := []) hF rfl mv_5_copyFrom (by decide) (s_18 E _) rfl bw_4_103 rfl (by decide) (Nat.le_of_ble_eq_true rfl) dX0_copyFrom_19 (c5_copyFrom (ra_18 E) (ra_26 E) hr3) ?_
  refine j_aload_n hF rfl 0 rfl dX0_copyFrom_22 ?_
  refine gf0_2 hF (by decide) (s_15 E _) rfl bw_1_117 dX0_copyFrom_23 ?_
  refine j_aload_n hF rfl 1 rfl dX0_copyFrom_26 ?_
  refine gf0_2 hF (by decide) (s_23 E _) rfl bw_1_117 dX0_copyFrom_27 ?_
  obtain ⟨r5, S6, hr5, h⟩ := bnd_some h
  refine j_callV_v (As := [.ref (eA E 28)]) (st := []) hF rfl mv_5_copyFrom (by decide) (s_20 E _) rfl bw_4_103 rfl (by decide) (Nat.le_of_ble_eq_true rfl) dX0_copyFrom_30 (c5_copyFrom (ra_20 E) (ra_28 E) hr5) ?_
  refine j_aload_n hF rfl 0 rfl dX0_copyFrom_33 ?_
  refine j_aload_n hF rfl 1 rfl dX0_copyFrom_34 ?_
  refine gf0_3 hF (by decide) (s_23 E _) rfl bw_1_118 dX0_copyFrom_35 ?_
  refine pf0_3 hF (by decide) (s_15 E _) (s_15 E _) (Nat.le_of_ble_eq_true rfl) bw_1_118 dX0_copyFrom_38 ?_
  refine j_nmM h (fun S7 h => ?_)
  obtain rfl := ret1 h
  exact j_vret hF hC dX0_copyFrom_41
set_option maxHeartbeats 1000000 in
theorem c0_copyFrom_15_23 {E : En} {N : Nat} {S So : Mem} {ro : Unit} (h : f0_copyFrom_15_23 N S = some (ro, So)) : CT E yX0_copyFrom cX0_copyFrom 2 none 2 [.ref (eA E 15), .ref (eA E 23)] S (none) So :=
  CT_of (by decide) (Nat.le_of_ble_eq_true rfl) (fun X hF => t0_copyFrom_15_23 hF h rfl)
