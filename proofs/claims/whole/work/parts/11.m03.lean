def f10_shownOf_b39 (N : Nat) (v1 : Int32) (v3 : Int32) (w0 : Int32) (w1 : Int32) (S : Mem) : Option ((Int32 × Int32) ⊕ (Int32)) :=
lt_ (w1 + w0) fun x3 =>
lt_ (v3 + (1 : Int32)) fun x4 =>
some (.inl (x3, x4))
def f10_shownOf_L9 (N : Nat) (v1 : Int32) (v2 : Int32) (v3 : Int32) (S : Mem) : Option ((Int32 × Int32) ⊕ (Int32)) :=
if (0 : Int32) < 0 ∨ 2 ≤ (0 : Int32).toNatClampNeg then none else
lt_ ((S 59).1 (0 : Int32).toNatClampNeg) fun x2 =>
if x2 ≤ v3 then
some (.inr (v2))
else
if ((v1 >>> (v3 &&& 31)) &&& (1 : Int32)) = (1 : Int32) then
if v3 < 0 ∨ 4 ≤ v3.toNatClampNeg then none else
lt_ ((S 65).1 v3.toNatClampNeg) fun x5 =>
f10_shownOf_b39 N v1 v3 x5 v2 S
else
f10_shownOf_b39 N v1 v3 (0 : Int32) v2 S
def f10_shownOf_b47 (N : Nat) (v2 : Int32) (S : Mem) : Option Int32 :=
if (0 : Int32) < 0 ∨ 2 ≤ (0 : Int32).toNatClampNeg then none else
lt_ ((S 61).1 (0 : Int32).toNatClampNeg) fun x7 =>
if x7 = (0 : Int32) then none else
some ((v2 - v2 / x7 * x7))
def f10_shownOf (N : Nat) (a1 : Int32) (S : Mem) : Option Int32 :=
if (3 : Int32) < 0 ∨ 4 ≤ (3 : Int32).toNatClampNeg then none else
lt_ ((S 65).1 (3 : Int32).toNatClampNeg) fun x1 =>
bnp (lp N (fun s => f10_shownOf_L9 N a1 s.1 s.2 S) (x1, (0 : Int32))) fun z6 =>
f10_shownOf_b47 N z6 S
set_option maxHeartbeats 1000000 in
theorem t10_shownOf_b39 {E : En} {X : Cx} {Q : State → Prop} {N : Nat} {v1 : Int32} {v3 : Int32} {w0 : Int32} {w1 : Int32} {S : Mem} {o : ((Int32 × Int32) ⊕ (Int32))} (hF : Fx E X cX10_shownOf RX10 4 (some .int) 0) (h : f10_shownOf_b39 N v1 v3 w0 w1 S = some o) (hC : Sum.elim (fun (s : (Int32 × Int32)) => J E X Q S 9 [(0, .ref (eA E 57)), (1, .int v1), (2, .int s.1), (3, .int s.2)] []) (fun (x : (Int32)) => J E X Q S 47 [(0, .ref (eA E 57)), (2, .int x)] []) o) : J E X Q S 39 [(0, .ref (eA E 57)), (1, .int v1), (3, .int v3)] [.int w0, .int w1] := by
  unfold f10_shownOf_b39 at h
  refine j_iadd hF dX10_shownOf_39 ?_
  refine j_istore_n (lv' := [(2, .int (w1 + w0)), (0, .ref (eA E 57)), (1, .int v1), (3, .int v3)]) hF rfl (by decide) rfl dX10_shownOf_40 ?_
  refine j_nmL h (fun x3 h => ?_)
  refine j_iinc (v := (v3 + (1 : Int32))) (lv' := [(3, .int (v3 + (1 : Int32))), (2, .int x3), (0, .ref (eA E 57)), (1, .int v1)]) (q := 3) hF rfl (congrArg (fun z => v3 + z) (by decide)) (by decide) rfl dX10_shownOf_41 ?_
  refine j_nmL h (fun x4 h => ?_)
  refine j_goto (tgt := 9) hF (by decide) dX10_shownOf_44 ?_
  obtain rfl := ret1 h
  refine j_sub (lv' := [(0, .ref (eA E 57)), (1, .int v1), (2, .int x3), (3, .int x4)]) hF [2, 3, 1, 0] rfl ?_
  exact hC
set_option maxHeartbeats 1000000 in
theorem t10_shownOf_L9 {E : En} {X : Cx} {Q : State → Prop} {N : Nat} {v1 : Int32} {v2 : Int32} {v3 : Int32} {S : Mem} {o : ((Int32 × Int32) ⊕ (Int32))} (hF : Fx E X cX10_shownOf RX10 4 (some .int) 0) (h : f10_shownOf_L9 N v1 v2 v3 S = some o) (hC : Sum.elim (fun (s : (Int32 × Int32)) => J E X Q S 9 [(0, .ref (eA E 57)), (1, .int v1), (2, .int s.1), (3, .int s.2)] []) (fun (x : (Int32)) => J E X Q S 47 [(0, .ref (eA E 57)), (2, .int x)] []) o) : J E X Q S 9 [(0, .ref (eA E 57)), (1, .int v1), (2, .int v2), (3, .int v3)] [] := by
  unfold f10_shownOf_L9 at h
  refine j_iload_n hF rfl 3 rfl dX10_shownOf_9 ?_
  refine j_aload_n hF rfl 0 rfl dX10_shownOf_10 ?_
  refine gf10_3 hF (by decide) (s_57 E _) rfl bw_4_138 dX10_shownOf_11 ?_
  refine j_iconst (v := (0 : Int32)) hF (by decide) dX10_shownOf_14 ?_
  refine j_iald hF (by decide) (s_59 E) h dX10_shownOf_15 (fun h => ?_)
  refine j_nmT h (fun x2 h => ?_)
  refine j_icmp_ge (tgt := 47) hF h (by decide) dX10_shownOf_16 (fun h => ?_) (fun h => ?_)
  · obtain rfl := ret1 h
    refine j_sub (lv' := [(0, .ref (eA E 57)), (2, .int v2)]) hF [0, 2] rfl ?_
    exact hC
  · refine j_iload_n hF rfl 2 rfl dX10_shownOf_19 ?_
    refine j_iload_n hF rfl 1 rfl dX10_shownOf_20 ?_
    refine j_iload_n hF rfl 3 rfl dX10_shownOf_21 ?_
    refine j_ishr hF dX10_shownOf_22 ?_
    refine j_iconst (v := (1 : Int32)) hF (by decide) dX10_shownOf_23 ?_
    refine j_iand hF dX10_shownOf_24 ?_
    refine j_iconst (v := (1 : Int32)) hF (by decide) dX10_shownOf_25 ?_
    refine j_icmp_ne (tgt := 38) hF h (by decide) dX10_shownOf_26 (fun h => ?_) (fun h => ?_)
    · refine j_iconst (v := (0 : Int32)) hF (by decide) dX10_shownOf_38 ?_
      refine j_sub (lv' := [(0, .ref (eA E 57)), (1, .int v1), (3, .int v3)]) hF [0, 1, 3] rfl ?_
      exact t10_shownOf_b39 hF h hC
    · refine j_aload_n hF rfl 0 rfl dX10_shownOf_29 ?_
      refine gf10_15 hF (by decide) (s_57 E _) rfl bw_4_150 dX10_shownOf_30 ?_
      refine j_iload_n hF rfl 3 rfl dX10_shownOf_33 ?_
      refine j_iald hF (by decide) (s_65 E) h dX10_shownOf_34 (fun h => ?_)
      refine j_nmT h (fun x5 h => ?_)
      refine j_goto (tgt := 39) hF (by decide) dX10_shownOf_35 ?_
      refine j_sub (lv' := [(0, .ref (eA E 57)), (1, .int v1), (3, .int v3)]) hF [0, 1, 3] rfl ?_
      exact t10_shownOf_b39 hF h hC
set_option maxHeartbeats 1000000 in
theorem t10_shownOf_b47 {E : En} {X : Cx} {Q : State → Prop} {N : Nat} {v2 : Int32} {S : Mem} {o : Int32} (hF : Fx E X cX10_shownOf RX10 4 (some .int) 0) (h : f10_shownOf_b47 N v2 S = some o) (hC : Q = RQ E X (some (.int o)) S) : J E X Q S 47 [(0, .ref (eA E 57)), (2, .int v2)] [] := by
  unfold f10_shownOf_b47 at h
  refine j_iload_n hF rfl 1 rfl dX10_shownOf_47 ?_
  refine j_aload_n hF rfl 0 rfl dX10_shownOf_48 ?_
  refine gf10_5 hF (by decide) (s_57 E _) rfl bw_4_140 dX10_shownOf_49 ?_
  refine j_iconst (v := (0 : Int32)) hF (by decide) dX10_shownOf_52 ?_
  refine j_iald hF (by decide) (s_61 E) h dX10_shownOf_53 (fun h => ?_)
  refine j_nmT h (fun x7 h => ?_)
  refine j_irem hF h dX10_shownOf_54 (fun h => ?_)
  obtain rfl := ret1 h
  exact j_iret hF hC dX10_shownOf_55
set_option maxHeartbeats 1000000 in
theorem t10_shownOf {E : En} {X : Cx} {Q : State → Prop} {N : Nat} {a1 : Int32} {S : Mem} {o : Int32} (hF : Fx E X cX10_shownOf RX10 4 (some .int) 0) (h : f10_shownOf N a1 S = some o) (hC : Q = RQ E X (some (.int o)) S) : J E X Q S 0 [(0, .ref (eA E 57)), (1, .int a1)] [] := by
  unfold f10_shownOf at h
  refine j_aload_n hF rfl 0 rfl dX10_shownOf_0 ?_
  refine gf10_15 hF (by decide) (s_57 E _) rfl bw_4_150 dX10_shownOf_1 ?_
  refine j_iconst (v := (3 : Int32)) hF (by decide) dX10_shownOf_4 ?_
  refine j_iald hF (by decide) (s_65 E) h dX10_shownOf_5 (fun h => ?_)
  refine j_nmT h (fun x1 h => ?_)
  refine j_istore_n (lv' := [(2, .int x1), (0, .ref (eA E 57)), (1, .int a1)]) hF rfl (by decide) rfl dX10_shownOf_6 ?_
  refine j_iconst (v := (0 : Int32)) hF (by decide) dX10_shownOf_7 ?_
  refine j_istore_n (lv' := [(3, .int (0 : Int32)), (2, .int x1), (0, .ref (eA E 57)), (1, .int a1)]) hF rfl (by decide) rfl dX10_shownOf_8 ?_
  obtain ⟨z6, hz6, h⟩ := bnp_some h
  refine j_sub (lv' := [(0, .ref (eA E 57)), (1, .int a1), (2, .int x1), (3, .int (0 : Int32))]) hF [2, 3, 1, 0] rfl ?_
  have hx : (fun (x : (Int32)) => J E X Q S 47 [(0, .ref (eA E 57)), (2, .int x)] []) z6 := by
    exact t10_shownOf_b47 hF h hC
  exact lp_rule (Jh := fun (s : (Int32 × Int32)) => J E X Q S 9 [(0, .ref (eA E 57)), (1, .int a1), (2, .int s.1), (3, .int s.2)] []) (C := fun (x : (Int32)) => J E X Q S 47 [(0, .ref (eA E 57)), (2, .int x)] []) (fun s o h hC => t10_shownOf_L9 hF h hC) N (x1, (0 : Int32)) z6 hz6 hx
set_option maxHeartbeats 1000000 in
theorem c10_shownOf {E : En} {N : Nat} {a1 : Int32} {S : Mem} {ro : Int32} (h : f10_shownOf N a1 S = some ro) : CT E yX10_shownOf cX10_shownOf 4 (some .int) 0 [.ref (eA E 57), .int a1] S (some (.int ro)) S :=
  CT_of (by decide) (Nat.le_of_ble_eq_true rfl) (fun X hF => t10_shownOf hF h rfl)
def f10_laughIn_b89 (N : Nat) (v3 : Int32) (S : Mem) : Option Int32 :=
some (v3)
def f10_laughIn_b60 (N : Nat) (v1 : Int32) (w0 : Int32) (S : Mem) : Option Int32 :=
if (((3 : Int32) * v1) + (2 : Int32)) < 0 ∨ 108 ≤ (((3 : Int32) * v1) + (2 : Int32)).toNatClampNeg then none else
lt_ ((S 63).1 (((3 : Int32) * v1) + (2 : Int32)).toNatClampNeg) fun x6 =>
if x6 = (2 : Int32) then
f10_laughIn_b89 N w0 S
else
if (((3 : Int32) * v1) + (2 : Int32)) < 0 ∨ 108 ≤ (((3 : Int32) * v1) + (2 : Int32)).toNatClampNeg then none else
lt_ ((S 63).1 (((3 : Int32) * v1) + (2 : Int32)).toNatClampNeg) fun x7 =>
if x7 = w0 then
f10_laughIn_b89 N w0 S
else
some ((-9 : Int32))
def f10_laughIn (N : Nat) (a1 : Int32) (S : Mem) : Option Int32 :=
if ((3 : Int32) * a1) < 0 ∨ 108 ≤ ((3 : Int32) * a1).toNatClampNeg then none else
lt_ ((S 63).1 ((3 : Int32) * a1).toNatClampNeg) fun x1 =>
bnp (f10_shownOf N x1 S) fun r2 =>
if (((3 : Int32) * a1) + (1 : Int32)) < 0 ∨ 108 ≤ (((3 : Int32) * a1) + (1 : Int32)).toNatClampNeg then none else
lt_ ((S 63).1 (((3 : Int32) * a1) + (1 : Int32)).toNatClampNeg) fun x3 =>
if r2 = x3 then
f10_laughIn_b60 N a1 (0 : Int32) S
else
if (0 : Int32) < 0 ∨ 2 ≤ (0 : Int32).toNatClampNeg then none else
lt_ ((S 61).1 (0 : Int32).toNatClampNeg) fun x4 =>
if x4 = (0 : Int32) then none else
if (((3 : Int32) * a1) + (1 : Int32)) < 0 ∨ 108 ≤ (((3 : Int32) * a1) + (1 : Int32)).toNatClampNeg then none else
lt_ ((S 63).1 (((3 : Int32) * a1) + (1 : Int32)).toNatClampNeg) fun x5 =>
if ((r2 + (1 : Int32)) - (r2 + (1 : Int32)) / x4 * x4) = x5 then
f10_laughIn_b60 N a1 (1 : Int32) S
else
f10_laughIn_b60 N a1 (-9 : Int32) S
set_option maxHeartbeats 1000000 in
theorem t10_laughIn_b89 {E : En} {X : Cx} {Q : State → Prop} {N : Nat} {v3 : Int32} {S : Mem} {o : Int32} (hF : Fx E X cX10_laughIn RX10 4 (some .int) 1) (h : f10_laughIn_b89 N v3 S = some o) (hC : Q = RQ E X (some (.int o)) S) : J E X Q S 89 [(3, .int v3)] [] := by
  unfold f10_laughIn_b89 at h
  refine j_iload_n hF rfl 0 rfl dX10_laughIn_89 ?_
  refine j_goto (tgt := 95) hF (by decide) dX10_laughIn_90 ?_
  obtain rfl := ret1 h
  exact j_iret hF hC dX10_laughIn_95
set_option maxHeartbeats 1000000 in
theorem t10_laughIn_b60 {E : En} {X : Cx} {Q : State → Prop} {N : Nat} {v1 : Int32} {w0 : Int32} {S : Mem} {o : Int32} (hF : Fx E X cX10_laughIn RX10 4 (some .int) 1) (h : f10_laughIn_b60 N v1 w0 S = some o) (hC : Q = RQ E X (some (.int o)) S) : J E X Q S 60 [(0, .ref (eA E 57)), (1, .int v1)] [.int w0] := by
  unfold f10_laughIn_b60 at h
  refine j_istore_n (lv' := [(3, .int w0), (0, .ref (eA E 57)), (1, .int v1)]) hF rfl (by decide) rfl dX10_laughIn_60 ?_
  refine j_aload_n hF rfl 1 rfl dX10_laughIn_61 ?_
  refine gf10_13 hF (by decide) (s_57 E _) rfl bw_4_148 dX10_laughIn_62 ?_
  refine j_iconst (v := (3 : Int32)) hF (by decide) dX10_laughIn_65 ?_
  refine j_iload_n hF rfl 2 rfl dX10_laughIn_66 ?_
  refine j_imul hF dX10_laughIn_67 ?_
  refine j_iconst (v := (2 : Int32)) hF (by decide) dX10_laughIn_68 ?_
  refine j_iadd hF dX10_laughIn_69 ?_
  refine j_iald hF (by decide) (s_63 E) h dX10_laughIn_70 (fun h => ?_)
  refine j_nmT h (fun x6 h => ?_)
  refine j_iconst (v := (2 : Int32)) hF (by decide) dX10_laughIn_71 ?_
  refine j_icmp_eq (tgt := 89) hF h (by decide) dX10_laughIn_72 (fun h => ?_) (fun h => ?_)
  · refine j_sub (lv' := [(3, .int w0)]) hF [0] rfl ?_
    exact t10_laughIn_b89 hF h hC
  · refine j_aload_n hF rfl 1 rfl dX10_laughIn_75 ?_
    refine gf10_13 hF (by decide) (s_57 E _) rfl bw_4_148 dX10_laughIn_76 ?_
    refine j_iconst (v := (3 : Int32)) hF (by decide) dX10_laughIn_79 ?_
    refine j_iload_n hF rfl 2 rfl dX10_laughIn_80 ?_
    refine j_imul hF dX10_laughIn_81 ?_
    refine j_iconst (v := (2 : Int32)) hF (by decide) dX10_laughIn_82 ?_
    refine j_iadd hF dX10_laughIn_83 ?_
    refine j_iald hF (by decide) (s_63 E) h dX10_laughIn_84 (fun h => ?_)
    refine j_nmT h (fun x7 h => ?_)
    refine j_iload_n hF rfl 0 rfl dX10_laughIn_85 ?_
    refine j_icmp_ne (tgt := 93) hF h (by decide) dX10_laughIn_86 (fun h => ?_) (fun h => ?_)
    · refine j_bipush (v := (-9 : Int32)) hF (by decide) dX10_laughIn_93 ?_
      obtain rfl := ret1 h
      exact j_iret hF hC dX10_laughIn_95
    · refine j_sub (lv' := [(3, .int w0)]) hF [0] rfl ?_
      exact t10_laughIn_b89 hF h hC
set_option maxHeartbeats 1000000 in
theorem t10_laughIn {E : En} {X : Cx} {Q : State → Prop} {N : Nat} {a1 : Int32} {S : Mem} {o : Int32} (hF : Fx E X cX10_laughIn RX10 4 (some .int) 1) (h : f10_laughIn N a1 S = some o) (hC : Q = RQ E X (some (.int o)) S) : J E X Q S 0 [(0, .ref (eA E 57)), (1, .int a1)] [] := by
  unfold f10_laughIn at h
  refine j_aload_n hF rfl 0 rfl dX10_laughIn_0 ?_
  refine j_aload_n hF rfl 0 rfl dX10_laughIn_1 ?_
  refine gf10_13 hF (by decide) (s_57 E _) rfl bw_4_148 dX10_laughIn_2 ?_
  refine j_iconst (v := (3 : Int32)) hF (by decide) dX10_laughIn_5 ?_
  refine j_iload_n hF rfl 1 rfl dX10_laughIn_6 ?_
  refine j_imul hF dX10_laughIn_7 ?_
  refine j_iald hF (by decide) (s_63 E) h dX10_laughIn_8 (fun h => ?_)
  refine j_nmT h (fun x1 h => ?_)
  obtain ⟨r2, hr2, h⟩ := bnp_some h
  refine j_callV_i (As := [.int x1]) (st := []) hF rfl mv_10_shownOf (by decide) (s_57 E _) rfl bw_5_67 rfl (by decide) (Nat.le_of_ble_eq_true rfl) dX10_laughIn_9 (c10_shownOf hr2) ?_
  refine j_istore_n (lv' := [(2, .int r2), (0, .ref (eA E 57)), (1, .int a1)]) hF rfl (by decide) rfl dX10_laughIn_12 ?_
  refine j_iload_n hF rfl 0 rfl dX10_laughIn_13 ?_
  refine j_aload_n hF rfl 1 rfl dX10_laughIn_14 ?_
  refine gf10_13 hF (by decide) (s_57 E _) rfl bw_4_148 dX10_laughIn_15 ?_
  refine j_iconst (v := (3 : Int32)) hF (by decide) dX10_laughIn_18 ?_
  refine j_iload_n hF rfl 2 rfl dX10_laughIn_19 ?_
  refine j_imul hF dX10_laughIn_20 ?_
  refine j_iconst (v := (1 : Int32)) hF (by decide) dX10_laughIn_21 ?_
  refine j_iadd hF dX10_laughIn_22 ?_
  refine j_iald hF (by decide) (s_63 E) h dX10_laughIn_23 (fun h => ?_)
  refine j_nmT h (fun x3 h => ?_)
  refine j_icmp_ne (tgt := 31) hF h (by decide) dX10_laughIn_24 (fun h => ?_) (fun h => ?_)
  · refine j_iload_n hF rfl 0 rfl dX10_laughIn_31 ?_
    refine j_iconst (v := (1 : Int32)) hF (by decide) dX10_laughIn_32 ?_
    refine j_iadd hF dX10_laughIn_33 ?_
    refine j_aload_n hF rfl 1 rfl dX10_laughIn_34 ?_
    refine gf10_5 hF (by decide) (s_57 E _) rfl bw_4_140 dX10_laughIn_35 ?_
    refine j_iconst (v := (0 : Int32)) hF (by decide) dX10_laughIn_38 ?_
    refine j_iald hF (by decide) (s_61 E) h dX10_laughIn_39 (fun h => ?_)
    refine j_nmT h (fun x4 h => ?_)
    refine j_irem hF h dX10_laughIn_40 (fun h => ?_)
    refine j_aload_n hF rfl 1 rfl dX10_laughIn_41 ?_
    refine gf10_13 hF (by decide) (s_57 E _) rfl bw_4_148 dX10_laughIn_42 ?_
    refine j_iconst (v := (3 : Int32)) hF (by decide) dX10_laughIn_45 ?_
    refine j_iload_n hF rfl 2 rfl dX10_laughIn_46 ?_
    refine j_imul hF dX10_laughIn_47 ?_
    refine j_iconst (v := (1 : Int32)) hF (by decide) dX10_laughIn_48 ?_
    refine j_iadd hF dX10_laughIn_49 ?_
    refine j_iald hF (by decide) (s_63 E) h dX10_laughIn_50 (fun h => ?_)
    refine j_nmT h (fun x5 h => ?_)
    refine j_icmp_ne (tgt := 58) hF h (by decide) dX10_laughIn_51 (fun h => ?_) (fun h => ?_)
    · refine j_bipush (v := (-9 : Int32)) hF (by decide) dX10_laughIn_58 ?_
      refine j_sub (lv' := [(0, .ref (eA E 57)), (1, .int a1)]) hF [1, 2] rfl ?_
      exact t10_laughIn_b60 hF h hC
    · refine j_iconst (v := (1 : Int32)) hF (by decide) dX10_laughIn_54 ?_
      refine j_goto (tgt := 60) hF (by decide) dX10_laughIn_55 ?_
      refine j_sub (lv' := [(0, .ref (eA E 57)), (1, .int a1)]) hF [1, 2] rfl ?_
      exact t10_laughIn_b60 hF h hC
  · refine j_iconst (v := (0 : Int32)) hF (by decide) dX10_laughIn_27 ?_
    refine j_goto (tgt := 60) hF (by decide) dX10_laughIn_28 ?_
    refine j_sub (lv' := [(0, .ref (eA E 57)), (1, .int a1)]) hF [1, 2] rfl ?_
    exact t10_laughIn_b60 hF h hC
set_option maxHeartbeats 1000000 in
theorem c10_laughIn {E : En} {N : Nat} {a1 : Int32} {S : Mem} {ro : Int32} (h : f10_laughIn N a1 S = some ro) : CT E yX10_laughIn cX10_laughIn 4 (some .int) 1 [.ref (eA E 57), .int a1] S (some (.int ro)) S :=
  CT_of (by decide) (Nat.le_of_ble_eq_true rfl) (fun X hF => t10_laughIn hF h rfl)
def f10_falseLines_b32 (N : Nat) (v2 : Int32) (w0 : Int32) (w1 : Int32) (S : Mem) : Option ((Int32 × Int32) ⊕ (Int32)) :=
lt_ (w1 ||| w0) fun x3 =>
lt_ (v2 + (1 : Int32)) fun x4 =>
some (.inl (x3, x4))
def f10_falseLines_L4 (N : Nat) (v1 : Int32) (v2 : Int32) (S : Mem) : Option ((Int32 × Int32) ⊕ (Int32)) :=
if (0 : Int32) < 0 ∨ 3 ≤ (0 : Int32).toNatClampNeg then none else
lt_ ((S 62).1 (0 : Int32).toNatClampNeg) fun x1 =>
if x1 ≤ v2 then
some (.inr (v1))
else
bnp (f10_laughIn N v2 S) fun r2 =>
if r2 = (-9 : Int32) then
f10_falseLines_b32 N v2 ((1 : Int32) <<< (v2 &&& 31)) v1 S
else
f10_falseLines_b32 N v2 (0 : Int32) v1 S
def f10_falseLines_b40 (N : Nat) (v1 : Int32) (S : Mem) : Option Int32 :=
some (v1)
def f10_falseLines (N : Nat) (S : Mem) : Option Int32 :=
bnp (lp N (fun s => f10_falseLines_L4 N s.1 s.2 S) ((0 : Int32), (0 : Int32))) fun z5 =>
f10_falseLines_b40 N z5 S
set_option maxHeartbeats 1000000 in
theorem t10_falseLines_b32 {E : En} {X : Cx} {Q : State → Prop} {N : Nat} {v2 : Int32} {w0 : Int32} {w1 : Int32} {S : Mem} {o : ((Int32 × Int32) ⊕ (Int32))} (hF : Fx E X cX10_falseLines RX10 3 (some .int) 2) (h : f10_falseLines_b32 N v2 w0 w1 S = some o) (hC : Sum.elim (fun (s : (Int32 × Int32)) => J E X Q S 4 [(0, .ref (eA E 57)), (1, .int s.1), (2, .int s.2)] []) (fun (x : (Int32)) => J E X Q S 40 [(1, .int x)] []) o) : J E X Q S 32 [(0, .ref (eA E 57)), (2, .int v2)] [.int w0, .int w1] := by
  unfold f10_falseLines_b32 at h
  refine j_ior hF dX10_falseLines_32 ?_
  refine j_istore_n (lv' := [(1, .int (w1 ||| w0)), (0, .ref (eA E 57)), (2, .int v2)]) hF rfl (by decide) rfl dX10_falseLines_33 ?_
  refine j_nmL h (fun x3 h => ?_)
  refine j_iinc (v := (v2 + (1 : Int32))) (lv' := [(2, .int (v2 + (1 : Int32))), (1, .int x3), (0, .ref (eA E 57))]) (q := 2) hF rfl (congrArg (fun z => v2 + z) (by decide)) (by decide) rfl dX10_falseLines_34 ?_
  refine j_nmL h (fun x4 h => ?_)
  refine j_goto (tgt := 4) hF (by decide) dX10_falseLines_37 ?_
  obtain rfl := ret1 h
  refine j_sub (lv' := [(0, .ref (eA E 57)), (1, .int x3), (2, .int x4)]) hF [2, 1, 0] rfl ?_
  exact hC
set_option maxHeartbeats 1000000 in
theorem t10_falseLines_L4 {E : En} {X : Cx} {Q : State → Prop} {N : Nat} {v1 : Int32} {v2 : Int32} {S : Mem} {o : ((Int32 × Int32) ⊕ (Int32))} (hF : Fx E X cX10_falseLines RX10 3 (some .int) 2) (h : f10_falseLines_L4 N v1 v2 S = some o) (hC : Sum.elim (fun (s : (Int32 × Int32)) => J E X Q S 4 [(0, .ref (eA E 57)), (1, .int s.1), (2, .int s.2)] []) (fun (x : (Int32)) => J E X Q S 40 [(1, .int x)] []) o) : J E X Q S 4 [(0, .ref (eA E 57)), (1, .int v1), (2, .int v2)] [] := by
  unfold f10_falseLines_L4 at h
  refine j_iload_n hF rfl 2 rfl dX10_falseLines_4 ?_
  refine j_aload_n hF rfl 0 rfl dX10_falseLines_5 ?_
  refine gf10_12 hF (by decide) (s_57 E _) rfl bw_4_147 dX10_falseLines_6 ?_
  refine j_iconst (v := (0 : Int32)) hF (by decide) dX10_falseLines_9 ?_
  refine j_iald hF (by decide) (s_62 E) h dX10_falseLines_10 (fun h => ?_)
  refine j_nmT h (fun x1 h => ?_)
  refine j_icmp_ge (tgt := 40) hF h (by decide) dX10_falseLines_11 (fun h => ?_) (fun h => ?_)
  · obtain rfl := ret1 h
    refine j_sub (lv' := [(1, .int v1)]) hF [1] rfl ?_
    exact hC
  · refine j_iload_n hF rfl 1 rfl dX10_falseLines_14 ?_
    refine j_aload_n hF rfl 0 rfl dX10_falseLines_15 ?_
    refine j_iload_n hF rfl 2 rfl dX10_falseLines_16 ?_
    obtain ⟨r2, hr2, h⟩ := bnp_some h
    refine j_callV_i (As := [.int v2]) (st := [.int v1]) hF rfl mv_10_laughIn (by decide) (s_57 E _) rfl bw_5_63 rfl (by decide) (Nat.le_of_ble_eq_true rfl) dX10_falseLines_17 (c10_laughIn hr2) ?_
    refine j_bipush (v := (-9 : Int32)) hF (by decide) dX10_falseLines_20 ?_
    refine j_icmp_ne (tgt := 31) hF h (by decide) dX10_falseLines_22 (fun h => ?_) (fun h => ?_)
    · refine j_iconst (v := (0 : Int32)) hF (by decide) dX10_falseLines_31 ?_
      refine j_sub (lv' := [(0, .ref (eA E 57)), (2, .int v2)]) hF [0, 2] rfl ?_
      exact t10_falseLines_b32 hF h hC
    · refine j_iconst (v := (1 : Int32)) hF (by decide) dX10_falseLines_25 ?_
      refine j_iload_n hF rfl 2 rfl dX10_falseLines_26 ?_
      refine j_ishl hF dX10_falseLines_27 ?_
      refine j_goto (tgt := 32) hF (by decide) dX10_falseLines_28 ?_
      refine j_sub (lv' := [(0, .ref (eA E 57)), (2, .int v2)]) hF [0, 2] rfl ?_
      exact t10_falseLines_b32 hF h hC
set_option maxHeartbeats 1000000 in
theorem t10_falseLines_b40 {E : En} {X : Cx} {Q : State → Prop} {N : Nat} {v1 : Int32} {S : Mem} {o : Int32} (hF : Fx E X cX10_falseLines RX10 3 (some .int) 2) (h : f10_falseLines_b40 N v1 S = some o) (hC : Q = RQ E X (some (.int o)) S) : J E X Q S 40 [(1, .int v1)] [] := by
  unfold f10_falseLines_b40 at h
  refine j_iload_n hF rfl 0 rfl dX10_falseLines_40 ?_
  obtain rfl := ret1 h
  exact j_iret hF hC dX10_falseLines_41
set_option maxHeartbeats 1000000 in
theorem t10_falseLines {E : En} {X : Cx} {Q : State → Prop} {N : Nat} {S : Mem} {o : Int32} (hF : Fx E X cX10_falseLines RX10 3 (some .int) 2) (h : f10_falseLines N S = some o) (hC : Q = RQ E X (some (.int o)) S) : J E X Q S 0 [(0, .ref (eA E 57))] [] := by
  unfold f10_falseLines at h
  refine j_iconst (v := (0 : Int32)) hF (by decide) dX10_falseLines_0 ?_
  refine j_istore_n (lv' := [(1, .int (0 : Int32)), (0, .ref (eA E 57))]) hF rfl (by decide) rfl dX10_falseLines_1 ?_
  refine j_iconst (v := (0 : Int32)) hF (by decide) dX10_falseLines_2 ?_
  refine j_istore_n (lv' := [(2, .int (0 : Int32)), (1, .int (0 : Int32)), (0, .ref (eA E 57))]) hF rfl (by decide) rfl dX10_falseLines_3 ?_
  obtain ⟨z5, hz5, h⟩ := bnp_some h
  refine j_sub (lv' := [(0, .ref (eA E 57)), (1, .int (0 : Int32)), (2, .int (0 : Int32))]) hF [2, 1, 0] rfl ?_
  have hx : (fun (x : (Int32)) => J E X Q S 40 [(1, .int x)] []) z5 := by
    exact t10_falseLines_b40 hF h hC
  exact lp_rule (Jh := fun (s : (Int32 × Int32)) => J E X Q S 4 [(0, .ref (eA E 57)), (1, .int s.1), (2, .int s.2)] []) (C := fun (x : (Int32)) => J E X Q S 40 [(1, .int x)] []) (fun s o h hC => t10_falseLines_L4 hF h hC) N ((0 : Int32), (0 : Int32)) z5 hz5 hx
set_option maxHeartbeats 1000000 in
theorem c10_falseLines {E : En} {N : Nat} {S : Mem} {ro : Int32} (h : f10_falseLines N S = some ro) : CT E yX10_falseLines cX10_falseLines 3 (some .int) 2 [.ref (eA E 57)] S (some (.int ro)) S :=
  CT_of (by decide) (Nat.le_of_ble_eq_true rfl) (fun X hF => t10_falseLines hF h rfl)
def f10_canBe (N : Nat) (a1 : Int32) (S : Mem) : Option (Int32 × Mem) :=
bnd (f10_go N a1 S) fun r1 S2 =>
bnp (f10_falseLines N S2) fun r3 =>
if r3 = 0 then
some (((1 : Int32), S2))
else
some (((0 : Int32), S2))
set_option maxHeartbeats 1000000 in
theorem t10_canBe {E : En} {X : Cx} {Q : State → Prop} {N : Nat} {a1 : Int32} {S : Mem} {o : (Int32 × Mem)} (hF : Fx E X cX10_canBe RX10 2 (some .boolean) 3) (h : f10_canBe N a1 S = some o) (hC : Q = RQ E X (some (.int o.1)) o.2) : J E X Q S 0 [(0, .ref (eA E 57)), (1, .int a1)] [] := by
  unfold f10_canBe at h
  refine j_aload_n hF rfl 0 rfl dX10_canBe_0 ?_
  refine j_iload_n hF rfl 1 rfl dX10_canBe_1 ?_
  obtain ⟨r1, S2, hr1, h⟩ := bnd_some h
  refine j_callV_v (As := [.int a1]) (st := []) hF rfl mv_10_go (by decide) (s_57 E _) rfl bw_5_55 rfl (by decide) (Nat.le_of_ble_eq_true rfl) dX10_canBe_2 (c10_go hr1) ?_
  refine j_aload_n hF rfl 0 rfl dX10_canBe_5 ?_
  obtain ⟨r3, hr3, h⟩ := bnp_some h
  refine j_callV_i (As := []) (st := []) hF rfl mv_10_falseLines (by decide) (s_57 E _) rfl bw_5_59 rfl (by decide) (Nat.le_of_ble_eq_true rfl) dX10_canBe_6 (c10_falseLines hr3) ?_
  refine j_if_ne (tgt := 16) hF h (by decide) dX10_canBe_9 (fun h => ?_) (fun h => ?_)
  · refine j_iconst (v := (0 : Int32)) hF (by decide) dX10_canBe_16 ?_
    obtain rfl := ret1 h
    exact j_ret_boolean hF (by decide) hC dX10_canBe_17
  · refine j_iconst (v := (1 : Int32)) hF (by decide) dX10_canBe_12 ?_
    refine j_goto (tgt := 17) hF (by decide) dX10_canBe_13 ?_
    obtain rfl := ret1 h
    exact j_ret_boolean hF (by decide) hC dX10_canBe_17
set_option maxHeartbeats 1000000 in
theorem c10_canBe {E : En} {N : Nat} {a1 : Int32} {S So : Mem} {ro : Int32} (h : f10_canBe N a1 S = some (ro, So)) : CT E yX10_canBe cX10_canBe 2 (some .boolean) 3 [.ref (eA E 57), .int a1] S (some (.int ro)) So :=
  CT_of (by decide) (Nat.le_of_ble_eq_true rfl) (fun X hF => t10_canBe hF h rfl)
def f10_many_b43 (N : Nat) (v1 : Int32) (v2 : Int32) (v4 : Int32) (w0 : Int32) (w1 : Int32) (S : Mem) : Option ((Int32 × Int32 × Mem) ⊕ (Int32 × Mem)) :=
lt_ (w1 + w0) fun x4 =>
lt_ (v4 + (1 : Int32)) fun x5 =>
some (.inl (x4, x5, S))
def f10_many_b42 (N : Nat) (v1 : Int32) (v2 : Int32) (v4 : Int32) (w0 : Int32) (S : Mem) : Option ((Int32 × Int32 × Mem) ⊕ (Int32 × Mem)) :=
f10_many_b43 N v1 v2 v4 (0 : Int32) w0 S
def f10_many_b38 (N : Nat) (v1 : Int32) (v2 : Int32) (v4 : Int32) (w0 : Int32) (S : Mem) : Option ((Int32 × Int32 × Mem) ⊕ (Int32 × Mem)) :=
f10_many_b43 N v1 v2 v4 (1 : Int32) w0 S
def f10_many_L5 (N : Nat) (v1 : Int32) (v2 : Int32) (v3 : Int32) (v4 : Int32) (S : Mem) : Option ((Int32 × Int32 × Mem) ⊕ (Int32 × Mem)) :=
bnp (f10_worlds N S) fun r1 =>
if r1 ≤ v4 then
some (.inr (v3, S))
else
bnd (f10_canBe N v4 S) fun r2 S3 =>
if r2 = 0 then
f10_many_b42 N v1 v2 v4 v3 S3
else
if v1 < 0 then
f10_many_b38 N v1 v2 v4 v3 S3
else
if v1 < 0 ∨ 4 ≤ v1.toNatClampNeg then none else
lt_ ((S3 65).1 v1.toNatClampNeg) fun x6 =>
if x6 = v2 then
f10_many_b38 N v1 v2 v4 v3 S3
else
f10_many_b42 N v1 v2 v4 v3 S3
def f10_many_b51 (N : Nat) (v3 : Int32) (S : Mem) : Option (Int32 × Mem) :=
some ((v3, S))
def f10_many (N : Nat) (a1 : Int32) (a2 : Int32) (S : Mem) : Option (Int32 × Mem) :=
bnp (lp N (fun s => f10_many_L5 N a1 a2 s.1 s.2.1 s.2.2) ((0 : Int32), (0 : Int32), S)) fun z7 =>
f10_many_b51 N z7.1 z7.2
set_option maxHeartbeats 1000000 in
theorem t10_many_b43 {E : En} {X : Cx} {Q : State → Prop} {N : Nat} {v1 : Int32} {v2 : Int32} {v4 : Int32} {w0 : Int32} {w1 : Int32} {S : Mem} {o : ((Int32 × Int32 × Mem) ⊕ (Int32 × Mem))} (hF : Fx E X cX10_many RX10 5 (some .int) 4) (h : f10_many_b43 N v1 v2 v4 w0 w1 S = some o) (hC : Sum.elim (fun (s : (Int32 × Int32 × Mem)) => J E X Q s.2.2 5 [(0, .ref (eA E 57)), (1, .int v1), (2, .int v2), (3, .int s.1), (4, .int s.2.1)] []) (fun (x : (Int32 × Mem)) => J E X Q x.2 51 [(3, .int x.1)] []) o) : J E X Q S 43 [(0, .ref (eA E 57)), (1, .int v1), (2, .int v2), (4, .int v4)] [.int w0, .int w1] := by
  unfold f10_many_b43 at h
  refine j_iadd hF dX10_many_43 ?_
  refine j_istore_n (lv' := [(3, .int (w1 + w0)), (0, .ref (eA E 57)), (1, .int v1), (2, .int v2), (4, .int v4)]) hF rfl (by decide) rfl dX10_many_44 ?_
  refine j_nmL h (fun x4 h => ?_)
  refine j_iinc (v := (v4 + (1 : Int32))) (lv' := [(4, .int (v4 + (1 : Int32))), (3, .int x4), (0, .ref (eA E 57)), (1, .int v1), (2, .int v2)]) (q := 4) hF rfl (congrArg (fun z => v4 + z) (by decide)) (by decide) rfl dX10_many_45 ?_
  refine j_nmL h (fun x5 h => ?_)
  refine j_goto (tgt := 5) hF (by decide) dX10_many_48 ?_
  obtain rfl := ret1 h
  refine j_sub (lv' := [(0, .ref (eA E 57)), (1, .int v1), (2, .int v2), (3, .int x4), (4, .int x5)]) hF [2, 3, 4, 1, 0] rfl ?_
  exact hC
set_option maxHeartbeats 1000000 in
theorem t10_many_b42 {E : En} {X : Cx} {Q : State → Prop} {N : Nat} {v1 : Int32} {v2 : Int32} {v4 : Int32} {w0 : Int32} {S : Mem} {o : ((Int32 × Int32 × Mem) ⊕ (Int32 × Mem))} (hF : Fx E X cX10_many RX10 5 (some .int) 4) (h : f10_many_b42 N v1 v2 v4 w0 S = some o) (hC : Sum.elim (fun (s : (Int32 × Int32 × Mem)) => J E X Q s.2.2 5 [(0, .ref (eA E 57)), (1, .int v1), (2, .int v2), (3, .int s.1), (4, .int s.2.1)] []) (fun (x : (Int32 × Mem)) => J E X Q x.2 51 [(3, .int x.1)] []) o) : J E X Q S 42 [(0, .ref (eA E 57)), (1, .int v1), (2, .int v2), (4, .int v4)] [.int w0] := by
  unfold f10_many_b42 at h
  refine j_iconst (v := (0 : Int32)) hF (by decide) dX10_many_42 ?_
  exact t10_many_b43 hF h hC
set_option maxHeartbeats 1000000 in
theorem t10_many_b38 {E : En} {X : Cx} {Q : State → Prop} {N : Nat} {v1 : Int32} {v2 : Int32} {v4 : Int32} {w0 : Int32} {S : Mem} {o : ((Int32 × Int32 × Mem) ⊕ (Int32 × Mem))} (hF : Fx E X cX10_many RX10 5 (some .int) 4) (h : f10_many_b38 N v1 v2 v4 w0 S = some o) (hC : Sum.elim (fun (s : (Int32 × Int32 × Mem)) => J E X Q s.2.2 5 [(0, .ref (eA E 57)), (1, .int v1), (2, .int v2), (3, .int s.1), (4, .int s.2.1)] []) (fun (x : (Int32 × Mem)) => J E X Q x.2 51 [(3, .int x.1)] []) o) : J E X Q S 38 [(0, .ref (eA E 57)), (1, .int v1), (2, .int v2), (4, .int v4)] [.int w0] := by
  unfold f10_many_b38 at h
  refine j_iconst (v := (1 : Int32)) hF (by decide) dX10_many_38 ?_
  refine j_goto (tgt := 43) hF (by decide) dX10_many_39 ?_
  exact t10_many_b43 hF h hC
set_option maxHeartbeats 1000000 in
theorem t10_many_L5 {E : En} {X : Cx} {Q : State → Prop} {N : Nat} {v1 : Int32} {v2 : Int32} {v3 : Int32} {v4 : Int32} {S : Mem} {o : ((Int32 × Int32 × Mem) ⊕ (Int32 × Mem))} (hF : Fx E X cX10_many RX10 5 (some .int) 4) (h : f10_many_L5 N v1 v2 v3 v4 S = some o) (hC : Sum.elim (fun (s : (Int32 × Int32 × Mem)) => J E X Q s.2.2 5 [(0, .ref (eA E 57)), (1, .int v1), (2, .int v2), (3, .int s.1), (4, .int s.2.1)] []) (fun (x : (Int32 × Mem)) => J E X Q x.2 51 [(3, .int x.1)] []) o) : J E X Q S 5 [(0, .ref (eA E 57)), (1, .int v1), (2, .int v2), (3, .int v3), (4, .int v4)] [] := by
  unfold f10_many_L5 at h
  refine j_iload hF 4 rfl dX10_many_5 ?_
  refine j_aload_n hF rfl 0 rfl dX10_many_7 ?_
  obtain ⟨r1, hr1, h⟩ := bnp_some h
  refine j_callV_i (As := []) (st := [.int v4]) hF rfl mv_10_worlds (by decide) (s_57 E _) rfl bw_5_47 rfl (by decide) (Nat.le_of_ble_eq_true rfl) dX10_many_8 (c10_worlds hr1) ?_
  refine j_icmp_ge (tgt := 51) hF h (by decide) dX10_many_11 (fun h => ?_) (fun h => ?_)
  · obtain rfl := ret1 h
    refine j_sub (lv' := [(3, .int v3)]) hF [3] rfl ?_
    exact hC
  · refine j_iload_n hF rfl 3 rfl dX10_many_14 ?_
    refine j_aload_n hF rfl 0 rfl dX10_many_15 ?_
    refine j_iload hF 4 rfl dX10_many_16 ?_
    obtain ⟨r2, S3, hr2, h⟩ := bnd_some h
    refine j_callV_i (As := [.int v4]) (st := [.int v3]) hF rfl mv_10_canBe (by decide) (s_57 E _) rfl bw_5_51 rfl (by decide) (Nat.le_of_ble_eq_true rfl) dX10_many_18 (c10_canBe hr2) ?_
    refine j_if_eq (tgt := 42) hF h (by decide) dX10_many_21 (fun h => ?_) (fun h => ?_)
    · refine j_sub (lv' := [(0, .ref (eA E 57)), (1, .int v1), (2, .int v2), (4, .int v4)]) hF [0, 1, 2, 4] rfl ?_
      exact t10_many_b42 hF h hC
    · refine j_iload_n hF rfl 1 rfl dX10_many_24 ?_
      refine j_if_lt (tgt := 38) hF h (by decide) dX10_many_25 (fun h => ?_) (fun h => ?_)
      · refine j_sub (lv' := [(0, .ref (eA E 57)), (1, .int v1), (2, .int v2), (4, .int v4)]) hF [0, 1, 2, 4] rfl ?_
        exact t10_many_b38 hF h hC
      · refine j_aload_n hF rfl 0 rfl dX10_many_28 ?_
        refine gf10_15 hF (by decide) (s_57 E _) rfl bw_4_150 dX10_many_29 ?_
        refine j_iload_n hF rfl 1 rfl dX10_many_32 ?_
        refine j_iald hF (by decide) (s_65 E) h dX10_many_33 (fun h => ?_)
        refine j_nmT h (fun x6 h => ?_)
        refine j_iload_n hF rfl 2 rfl dX10_many_34 ?_
        refine j_icmp_ne (tgt := 42) hF h (by decide) dX10_many_35 (fun h => ?_) (fun h => ?_)
        · refine j_sub (lv' := [(0, .ref (eA E 57)), (1, .int v1), (2, .int v2), (4, .int v4)]) hF [0, 1, 2, 4] rfl ?_
          exact t10_many_b42 hF h hC
        · refine j_sub (lv' := [(0, .ref (eA E 57)), (1, .int v1), (2, .int v2), (4, .int v4)]) hF [0, 1, 2, 4] rfl ?_
          exact t10_many_b38 hF h hC
set_option maxHeartbeats 1000000 in
theorem t10_many_b51 {E : En} {X : Cx} {Q : State → Prop} {N : Nat} {v3 : Int32} {S : Mem} {o : (Int32 × Mem)} (hF : Fx E X cX10_many RX10 5 (some .int) 4) (h : f10_many_b51 N v3 S = some o) (hC : Q = RQ E X (some (.int o.1)) o.2) : J E X Q S 51 [(3, .int v3)] [] := by
  unfold f10_many_b51 at h
  refine j_iload_n hF rfl 0 rfl dX10_many_51 ?_
  obtain rfl := ret1 h
  exact j_iret hF hC dX10_many_52
set_option maxHeartbeats 1000000 in
theorem t10_many {E : En} {X : Cx} {Q : State → Prop} {N : Nat} {a1 : Int32} {a2 : Int32} {S : Mem} {o : (Int32 × Mem)} (hF : Fx E X cX10_many RX10 5 (some .int) 4) (h : f10_many N a1 a2 S = some o) (hC : Q = RQ E X (some (.int o.1)) o.2) : J E X Q S 0 [(0, .ref (eA E 57)), (1, .int a1), (2, .int a2)] [] := by
  unfold f10_many at h
  refine j_iconst (v := (0 : Int32)) hF (by decide) dX10_many_0 ?_
  refine j_istore_n (lv' := [(3, .int (0 : Int32)), (0, .ref (eA E 57)), (1, .int a1), (2, .int a2)]) hF rfl (by decide) rfl dX10_many_1 ?_
  refine j_iconst (v := (0 : Int32)) hF (by decide) dX10_many_2 ?_
  refine j_istore (lv' := [(4, .int (0 : Int32)), (3, .int (0 : Int32)), (0, .ref (eA E 57)), (1, .int a1), (2, .int a2)]) hF (by decide) rfl dX10_many_3 ?_
  obtain ⟨z7, hz7, h⟩ := bnp_some h
  refine j_sub (lv' := [(0, .ref (eA E 57)), (1, .int a1), (2, .int a2), (3, .int (0 : Int32)), (4, .int (0 : Int32))]) hF [2, 3, 4, 1, 0] rfl ?_
  have hx : (fun (x : (Int32 × Mem)) => J E X Q x.2 51 [(3, .int x.1)] []) z7 := by
    exact t10_many_b51 hF h hC
  exact lp_rule (Jh := fun (s : (Int32 × Int32 × Mem)) => J E X Q s.2.2 5 [(0, .ref (eA E 57)), (1, .int a1), (2, .int a2), (3, .int s.1), (4, .int s.2.1)] []) (C := fun (x : (Int32 × Mem)) => J E X Q x.2 51 [(3, .int x.1)] []) (fun s o h hC => t10_many_L5 hF h hC) N ((0 : Int32), (0 : Int32), S) z7 hz7 hx
set_option maxHeartbeats 1000000 in
theorem c10_many {E : En} {N : Nat} {a1 : Int32} {a2 : Int32} {S So : Mem} {ro : Int32} (h : f10_many N a1 a2 S = some (ro, So)) : CT E yX10_many cX10_many 5 (some .int) 4 [.ref (eA E 57), .int a1, .int a2] S (some (.int ro)) So :=
  CT_of (by decide) (Nat.le_of_ble_eq_true rfl) (fun X hF => t10_many hF h rfl)
def f10_isOne_b13 (N : Nat) (S : Mem) : Option Int32 :=
some ((1 : Int32))
def f10_isOne (N : Nat) (a1 : Int32) (S : Mem) : Option Int32 :=
bnp (f10_isThing N a1 S) fun r1 =>
if r1 = 0 then
if a1 = (3 : Int32) then
f10_isOne_b13 N S
else
some ((0 : Int32))
else
f10_isOne_b13 N S
set_option maxHeartbeats 1000000 in
theorem t10_isOne_b13 {E : En} {X : Cx} {Q : State → Prop} {N : Nat} {S : Mem} {o : Int32} (hF : Fx E X cX10_isOne RX10 2 (some .boolean) 2) (h : f10_isOne_b13 N S = some o) (hC : Q = RQ E X (some (.int o)) S) : J E X Q S 13 [] [] := by
  unfold f10_isOne_b13 at h
  refine j_iconst (v := (1 : Int32)) hF (by decide) dX10_isOne_13 ?_
  refine j_goto (tgt := 18) hF (by decide) dX10_isOne_14 ?_
  obtain rfl := ret1 h
  exact j_ret_boolean hF (by decide) hC dX10_isOne_18
set_option maxHeartbeats 1000000 in
theorem t10_isOne {E : En} {X : Cx} {Q : State → Prop} {N : Nat} {a1 : Int32} {S : Mem} {o : Int32} (hF : Fx E X cX10_isOne RX10 2 (some .boolean) 2) (h : f10_isOne N a1 S = some o) (hC : Q = RQ E X (some (.int o)) S) : J E X Q S 0 [(0, .ref (eA E 57)), (1, .int a1)] [] := by
  unfold f10_isOne at h
  refine j_aload_n hF rfl 0 rfl dX10_isOne_0 ?_
  refine j_iload_n hF rfl 1 rfl dX10_isOne_1 ?_
  obtain ⟨r1, hr1, h⟩ := bnp_some h
  refine j_callV_i (As := [.int a1]) (st := []) hF rfl mv_10_isThing (by decide) (s_57 E _) rfl bw_4_239 rfl (by decide) (Nat.le_of_ble_eq_true rfl) dX10_isOne_2 (c10_isThing hr1) ?_
  refine j_if_ne (tgt := 13) hF h (by decide) dX10_isOne_5 (fun h => ?_) (fun h => ?_)
  · refine j_sub (lv' := []) hF [] rfl ?_
    exact t10_isOne_b13 hF h hC
  · refine j_iload_n hF rfl 1 rfl dX10_isOne_8 ?_
    refine j_iconst (v := (3 : Int32)) hF (by decide) dX10_isOne_9 ?_
    refine j_icmp_ne (tgt := 17) hF h (by decide) dX10_isOne_10 (fun h => ?_) (fun h => ?_)
    · refine j_iconst (v := (0 : Int32)) hF (by decide) dX10_isOne_17 ?_
      obtain rfl := ret1 h
      exact j_ret_boolean hF (by decide) hC dX10_isOne_18
    · refine j_sub (lv' := []) hF [] rfl ?_
      exact t10_isOne_b13 hF h hC
set_option maxHeartbeats 1000000 in
theorem c10_isOne {E : En} {N : Nat} {a1 : Int32} {S : Mem} {ro : Int32} (h : f10_isOne N a1 S = some ro) : CT E yX10_isOne cX10_isOne 2 (some .boolean) 2 [.ref (eA E 57), .int a1] S (some (.int ro)) S :=
  CT_of (by decide) (Nat.le_of_ble_eq_true rfl) (fun X hF => t10_isOne hF h rfl)
def f10_could_b13 (N : Nat) (v1 : Int32) (v2 : Int32) (S : Mem) : Option (Int32 × Mem) :=
bnp (f10_in N v2 (0 : Int32) (9 : Int32) S) fun r1 =>
if r1 = 0 then
some (((-1 : Int32), S))
else
bnd (f10_many N v1 v2 S) fun r2 S3 =>
some ((r2, S3))
def f10_could (N : Nat) (a1 : Int32) (a2 : Int32) (S : Mem) : Option (Int32 × Mem) :=
if a1 = (-1 : Int32) then
f10_could_b13 N a1 a2 S
else
bnp (f10_isOne N a1 S) fun r4 =>
if r4 = 0 then
some (((-1 : Int32), S))
else
f10_could_b13 N a1 a2 S
set_option maxHeartbeats 1000000 in
theorem t10_could_b13 {E : En} {X : Cx} {Q : State → Prop} {N : Nat} {v1 : Int32} {v2 : Int32} {S : Mem} {o : (Int32 × Mem)} (hF : Fx E X cX10_could RX10 3 (some .int) 5) (h : f10_could_b13 N v1 v2 S = some o) (hC : Q = RQ E X (some (.int o.1)) o.2) : J E X Q S 13 [(0, .ref (eA E 57)), (1, .int v1), (2, .int v2)] [] := by
  unfold f10_could_b13 at h
  refine j_iload_n hF rfl 2 rfl dX10_could_13 ?_
  refine j_iconst (v := (0 : Int32)) hF (by decide) dX10_could_14 ?_
  refine j_bipush (v := (9 : Int32)) hF (by decide) dX10_could_15 ?_
  obtain ⟨r1, hr1, h⟩ := bnp_some h
  refine j_callS_i (As := [.int v2, .int (0 : Int32), .int (9 : Int32)]) (st := []) hF rfl mv_10_in bw_4_201 rfl (by decide) (Nat.le_of_ble_eq_true rfl) dX10_could_17 (c10_in hr1) ?_
  refine j_if_eq (tgt := 32) hF h (by decide) dX10_could_20 (fun h => ?_) (fun h => ?_)
  · refine j_iconst (v := (-1 : Int32)) hF (by decide) dX10_could_32 ?_
    obtain rfl := ret1 h
    exact j_iret hF hC dX10_could_33
  · refine j_aload_n hF rfl 0 rfl dX10_could_23 ?_
    refine j_iload_n hF rfl 1 rfl dX10_could_24 ?_
    refine j_iload_n hF rfl 2 rfl dX10_could_25 ?_
    obtain ⟨r2, S3, hr2, h⟩ := bnd_some h
    refine j_callV_i (As := [.int v1, .int v2]) (st := []) hF rfl mv_10_many (by decide) (s_57 E _) rfl bw_5_43 rfl (by decide) (Nat.le_of_ble_eq_true rfl) dX10_could_26 (c10_many hr2) ?_
    refine j_goto (tgt := 33) hF (by decide) dX10_could_29 ?_
    obtain rfl := ret1 h
    exact j_iret hF hC dX10_could_33
set_option maxHeartbeats 1000000 in
theorem t10_could {E : En} {X : Cx} {Q : State → Prop} {N : Nat} {a1 : Int32} {a2 : Int32} {S : Mem} {o : (Int32 × Mem)} (hF : Fx E X cX10_could RX10 3 (some .int) 5) (h : f10_could N a1 a2 S = some o) (hC : Q = RQ E X (some (.int o.1)) o.2) : J E X Q S 0 [(0, .ref (eA E 57)), (1, .int a1), (2, .int a2)] [] := by
  unfold f10_could at h
  refine j_iload_n hF rfl 1 rfl dX10_could_0 ?_
  refine j_iconst (v := (-1 : Int32)) hF (by decide) dX10_could_1 ?_
  refine j_icmp_eq (tgt := 13) hF h (by decide) dX10_could_2 (fun h => ?_) (fun h => ?_)
  · exact t10_could_b13 hF h hC
  · refine j_aload_n hF rfl 0 rfl dX10_could_5 ?_
    refine j_iload_n hF rfl 1 rfl dX10_could_6 ?_
    obtain ⟨r4, hr4, h⟩ := bnp_some h
    refine j_callV_i (As := [.int a1]) (st := []) hF rfl mv_10_isOne (by decide) (s_57 E _) rfl bw_5_39 rfl (by decide) (Nat.le_of_ble_eq_true rfl) dX10_could_7 (c10_isOne hr4) ?_
    refine j_if_eq (tgt := 32) hF h (by decide) dX10_could_10 (fun h => ?_) (fun h => ?_)
    · refine j_iconst (v := (-1 : Int32)) hF (by decide) dX10_could_32 ?_
      obtain rfl := ret1 h
      exact j_iret hF hC dX10_could_33
    · exact t10_could_b13 hF h hC
set_option maxHeartbeats 1000000 in
theorem c10_could {E : En} {N : Nat} {a1 : Int32} {a2 : Int32} {S So : Mem} {ro : Int32} (h : f10_could N a1 a2 S = some (ro, So)) : CT E yX10_could cX10_could 3 (some .int) 5 [.ref (eA E 57), .int a1, .int a2] S (some (.int ro)) So :=
  CT_of (by decide) (Nat.le_of_ble_eq_true rfl) (fun X hF => t10_could hF h rfl)
def f10_sure_b43 (N : Nat) (v1 : Int32) (v3 : Int32) (w0 : Int32) (w1 : Int32) (S : Mem) : Option ((Int32 × Int32 × Mem) ⊕ (Int32 × Mem)) :=
lt_ (w1 ||| w0) fun x5 =>
lt_ (v3 + (1 : Int32)) fun x6 =>
some (.inl (x5, x6, S))
def f10_sure_L14 (N : Nat) (v1 : Int32) (v2 : Int32) (v3 : Int32) (S : Mem) : Option ((Int32 × Int32 × Mem) ⊕ (Int32 × Mem)) :=
bnp (f10_worlds N S) fun r2 =>
if r2 ≤ v3 then
some (.inr (v2, S))
else
bnd (f10_canBe N v3 S) fun r3 S4 =>
if r3 = 0 then
f10_sure_b43 N v1 v3 (0 : Int32) v2 S4
else
if v1 < 0 ∨ 4 ≤ v1.toNatClampNeg then none else
lt_ ((S4 65).1 v1.toNatClampNeg) fun x7 =>
f10_sure_b43 N v1 v3 ((1 : Int32) <<< (x7 &&& 31)) v2 S4
def f10_sure_b78 (N : Nat) (v2 : Int32) (v4 : Int32) (w0 : Int32) (S : Mem) : Option ((Int32 × Int32) ⊕ (Int32)) :=
lt_ (v4 + (1 : Int32)) fun x9 =>
some (.inl (w0, x9))
def f10_sure_L57 (N : Nat) (v2 : Int32) (v3 : Int32) (v4 : Int32) (S : Mem) : Option ((Int32 × Int32) ⊕ (Int32)) :=
if (10 : Int32) ≤ v4 then
some (.inr (v3))
else
if v2 = ((1 : Int32) <<< (v4 &&& 31)) then
f10_sure_b78 N v2 v4 v4 S
else
f10_sure_b78 N v2 v4 v3 S
def f10_sure_b85 (N : Nat) (v3 : Int32) (S : Mem) : Option (Int32 × Mem) :=
some ((v3, S))
def f10_sure_b51 (N : Nat) (v2 : Int32) (S : Mem) : Option (Int32 × Mem) :=
bnp (lp N (fun s => f10_sure_L57 N v2 s.1 s.2 S) ((-9 : Int32), (0 : Int32))) fun z10 =>
f10_sure_b85 N z10 S
def f10_sure (N : Nat) (a1 : Int32) (S : Mem) : Option (Int32 × Mem) :=
bnp (f10_isOne N a1 S) fun r1 =>
if r1 = 0 then
some (((-1 : Int32), S))
else
bnp (lp N (fun s => f10_sure_L14 N a1 s.1 s.2.1 s.2.2) ((0 : Int32), (0 : Int32), S)) fun z8 =>
f10_sure_b51 N z8.1 z8.2
set_option maxHeartbeats 1000000 in
theorem t10_sure_b43 {E : En} {X : Cx} {Q : State → Prop} {N : Nat} {v1 : Int32} {v3 : Int32} {w0 : Int32} {w1 : Int32} {S : Mem} {o : ((Int32 × Int32 × Mem) ⊕ (Int32 × Mem))} (hF : Fx E X cX10_sure RX10 5 (some .int) 4) (h : f10_sure_b43 N v1 v3 w0 w1 S = some o) (hC : Sum.elim (fun (s : (Int32 × Int32 × Mem)) => J E X Q s.2.2 14 [(0, .ref (eA E 57)), (1, .int v1), (2, .int s.1), (3, .int s.2.1)] []) (fun (x : (Int32 × Mem)) => J E X Q x.2 51 [(2, .int x.1)] []) o) : J E X Q S 43 [(0, .ref (eA E 57)), (1, .int v1), (3, .int v3)] [.int w0, .int w1] := by
  unfold f10_sure_b43 at h
  refine j_ior hF dX10_sure_43 ?_
  refine j_istore_n (lv' := [(2, .int (w1 ||| w0)), (0, .ref (eA E 57)), (1, .int v1), (3, .int v3)]) hF rfl (by decide) rfl dX10_sure_44 ?_
  refine j_nmL h (fun x5 h => ?_)
  refine j_iinc (v := (v3 + (1 : Int32))) (lv' := [(3, .int (v3 + (1 : Int32))), (2, .int x5), (0, .ref (eA E 57)), (1, .int v1)]) (q := 3) hF rfl (congrArg (fun z => v3 + z) (by decide)) (by decide) rfl dX10_sure_45 ?_
  refine j_nmL h (fun x6 h => ?_)
  refine j_goto (tgt := 14) hF (by decide) dX10_sure_48 ?_
  obtain rfl := ret1 h
  refine j_sub (lv' := [(0, .ref (eA E 57)), (1, .int v1), (2, .int x5), (3, .int x6)]) hF [2, 3, 1, 0] rfl ?_
  exact hC
set_option maxHeartbeats 1000000 in
theorem t10_sure_L14 {E : En} {X : Cx} {Q : State → Prop} {N : Nat} {v1 : Int32} {v2 : Int32} {v3 : Int32} {S : Mem} {o : ((Int32 × Int32 × Mem) ⊕ (Int32 × Mem))} (hF : Fx E X cX10_sure RX10 5 (some .int) 4) (h : f10_sure_L14 N v1 v2 v3 S = some o) (hC : Sum.elim (fun (s : (Int32 × Int32 × Mem)) => J E X Q s.2.2 14 [(0, .ref (eA E 57)), (1, .int v1), (2, .int s.1), (3, .int s.2.1)] []) (fun (x : (Int32 × Mem)) => J E X Q x.2 51 [(2, .int x.1)] []) o) : J E X Q S 14 [(0, .ref (eA E 57)), (1, .int v1), (2, .int v2), (3, .int v3)] [] := by
  unfold f10_sure_L14 at h
  refine j_iload_n hF rfl 3 rfl dX10_sure_14 ?_
  refine j_aload_n hF rfl 0 rfl dX10_sure_15 ?_
  obtain ⟨r2, hr2, h⟩ := bnp_some h
  refine j_callV_i (As := []) (st := [.int v3]) hF rfl mv_10_worlds (by decide) (s_57 E _) rfl bw_5_47 rfl (by decide) (Nat.le_of_ble_eq_true rfl) dX10_sure_16 (c10_worlds hr2) ?_
  refine j_icmp_ge (tgt := 51) hF h (by decide) dX10_sure_19 (fun h => ?_) (fun h => ?_)
  · obtain rfl := ret1 h
    refine j_sub (lv' := [(2, .int v2)]) hF [2] rfl ?_
    exact hC
  · refine j_iload_n hF rfl 2 rfl dX10_sure_22 ?_
    refine j_aload_n hF rfl 0 rfl dX10_sure_23 ?_
    refine j_iload_n hF rfl 3 rfl dX10_sure_24 ?_
    obtain ⟨r3, S4, hr3, h⟩ := bnd_some h
    refine j_callV_i (As := [.int v3]) (st := [.int v2]) hF rfl mv_10_canBe (by decide) (s_57 E _) rfl bw_5_51 rfl (by decide) (Nat.le_of_ble_eq_true rfl) dX10_sure_25 (c10_canBe hr3) ?_
    refine j_if_eq (tgt := 42) hF h (by decide) dX10_sure_28 (fun h => ?_) (fun h => ?_)
    · refine j_iconst (v := (0 : Int32)) hF (by decide) dX10_sure_42 ?_
      refine j_sub (lv' := [(0, .ref (eA E 57)), (1, .int v1), (3, .int v3)]) hF [0, 1, 3] rfl ?_
      exact t10_sure_b43 hF h hC
    · refine j_iconst (v := (1 : Int32)) hF (by decide) dX10_sure_31 ?_
      refine j_aload_n hF rfl 0 rfl dX10_sure_32 ?_
      refine gf10_15 hF (by decide) (s_57 E _) rfl bw_4_150 dX10_sure_33 ?_
      refine j_iload_n hF rfl 1 rfl dX10_sure_36 ?_
      refine j_iald hF (by decide) (s_65 E) h dX10_sure_37 (fun h => ?_)
      refine j_nmT h (fun x7 h => ?_)
      refine j_ishl hF dX10_sure_38 ?_
      refine j_goto (tgt := 43) hF (by decide) dX10_sure_39 ?_
      refine j_sub (lv' := [(0, .ref (eA E 57)), (1, .int v1), (3, .int v3)]) hF [0, 1, 3] rfl ?_
      exact t10_sure_b43 hF h hC
set_option maxHeartbeats 1000000 in
theorem t10_sure_b78 {E : En} {X : Cx} {Q : State → Prop} {N : Nat} {v2 : Int32} {v4 : Int32} {w0 : Int32} {S : Mem} {o : ((Int32 × Int32) ⊕ (Int32))} (hF : Fx E X cX10_sure RX10 5 (some .int) 4) (h : f10_sure_b78 N v2 v4 w0 S = some o) (hC : Sum.elim (fun (s : (Int32 × Int32)) => J E X Q S 57 [(2, .int v2), (3, .int s.1), (4, .int s.2)] []) (fun (x : (Int32)) => J E X Q S 85 [(3, .int x)] []) o) : J E X Q S 78 [(2, .int v2), (4, .int v4)] [.int w0] := by
  unfold f10_sure_b78 at h
  refine j_istore_n (lv' := [(3, .int w0), (2, .int v2), (4, .int v4)]) hF rfl (by decide) rfl dX10_sure_78 ?_
  refine j_iinc (v := (v4 + (1 : Int32))) (lv' := [(4, .int (v4 + (1 : Int32))), (3, .int w0), (2, .int v2)]) (q := 2) hF rfl (congrArg (fun z => v4 + z) (by decide)) (by decide) rfl dX10_sure_79 ?_
  refine j_nmL h (fun x9 h => ?_)
  refine j_goto (tgt := 57) hF (by decide) dX10_sure_82 ?_
  obtain rfl := ret1 h
  refine j_sub (lv' := [(2, .int v2), (3, .int w0), (4, .int x9)]) hF [2, 1, 0] rfl ?_
  exact hC
set_option maxHeartbeats 1000000 in
theorem t10_sure_L57 {E : En} {X : Cx} {Q : State → Prop} {N : Nat} {v2 : Int32} {v3 : Int32} {v4 : Int32} {S : Mem} {o : ((Int32 × Int32) ⊕ (Int32))} (hF : Fx E X cX10_sure RX10 5 (some .int) 4) (h : f10_sure_L57 N v2 v3 v4 S = some o) (hC : Sum.elim (fun (s : (Int32 × Int32)) => J E X Q S 57 [(2, .int v2), (3, .int s.1), (4, .int s.2)] []) (fun (x : (Int32)) => J E X Q S 85 [(3, .int x)] []) o) : J E X Q S 57 [(2, .int v2), (3, .int v3), (4, .int v4)] [] := by
  unfold f10_sure_L57 at h
  refine j_iload hF 2 rfl dX10_sure_57 ?_
  refine j_bipush (v := (10 : Int32)) hF (by decide) dX10_sure_59 ?_
  refine j_icmp_ge (tgt := 85) hF h (by decide) dX10_sure_61 (fun h => ?_) (fun h => ?_)
  · obtain rfl := ret1 h
    refine j_sub (lv' := [(3, .int v3)]) hF [1] rfl ?_
    exact hC
  · refine j_iload_n hF rfl 0 rfl dX10_sure_64 ?_
    refine j_iconst (v := (1 : Int32)) hF (by decide) dX10_sure_65 ?_
    refine j_iload hF 2 rfl dX10_sure_66 ?_
    refine j_ishl hF dX10_sure_68 ?_
    refine j_icmp_ne (tgt := 77) hF h (by decide) dX10_sure_69 (fun h => ?_) (fun h => ?_)
    · refine j_iload_n hF rfl 1 rfl dX10_sure_77 ?_
      refine j_sub (lv' := [(2, .int v2), (4, .int v4)]) hF [0, 2] rfl ?_
      exact t10_sure_b78 hF h hC
    · refine j_iload hF 2 rfl dX10_sure_72 ?_
      refine j_goto (tgt := 78) hF (by decide) dX10_sure_74 ?_
      refine j_sub (lv' := [(2, .int v2), (4, .int v4)]) hF [0, 2] rfl ?_
      exact t10_sure_b78 hF h hC
set_option maxHeartbeats 1000000 in
theorem t10_sure_b85 {E : En} {X : Cx} {Q : State → Prop} {N : Nat} {v3 : Int32} {S : Mem} {o : (Int32 × Mem)} (hF : Fx E X cX10_sure RX10 5 (some .int) 4) (h : f10_sure_b85 N v3 S = some o) (hC : Q = RQ E X (some (.int o.1)) o.2) : J E X Q S 85 [(3, .int v3)] [] := by
  unfold f10_sure_b85 at h
  refine j_iload_n hF rfl 0 rfl dX10_sure_85 ?_
  obtain rfl := ret1 h
  exact j_iret hF hC dX10_sure_86
set_option maxHeartbeats 1000000 in
theorem t10_sure_b51 {E : En} {X : Cx} {Q : State → Prop} {N : Nat} {v2 : Int32} {S : Mem} {o : (Int32 × Mem)} (hF : Fx E X cX10_sure RX10 5 (some .int) 4) (h : f10_sure_b51 N v2 S = some o) (hC : Q = RQ E X (some (.int o.1)) o.2) : J E X Q S 51 [(2, .int v2)] [] := by
  unfold f10_sure_b51 at h
  refine j_bipush (v := (-9 : Int32)) hF (by decide) dX10_sure_51 ?_
  refine j_istore_n (lv' := [(3, .int (-9 : Int32)), (2, .int v2)]) hF rfl (by decide) rfl dX10_sure_53 ?_
  refine j_iconst (v := (0 : Int32)) hF (by decide) dX10_sure_54 ?_
  refine j_istore (lv' := [(4, .int (0 : Int32)), (3, .int (-9 : Int32)), (2, .int v2)]) hF (by decide) rfl dX10_sure_55 ?_
  obtain ⟨z10, hz10, h⟩ := bnp_some h
  refine j_sub (lv' := [(2, .int v2), (3, .int (-9 : Int32)), (4, .int (0 : Int32))]) hF [2, 1, 0] rfl ?_
  have hx : (fun (x : (Int32)) => J E X Q S 85 [(3, .int x)] []) z10 := by
    exact t10_sure_b85 hF h hC
  exact lp_rule (Jh := fun (s : (Int32 × Int32)) => J E X Q S 57 [(2, .int v2), (3, .int s.1), (4, .int s.2)] []) (C := fun (x : (Int32)) => J E X Q S 85 [(3, .int x)] []) (fun s o h hC => t10_sure_L57 hF h hC) N ((-9 : Int32), (0 : Int32)) z10 hz10 hx
set_option maxHeartbeats 1000000 in
theorem t10_sure {E : En} {X : Cx} {Q : State → Prop} {N : Nat} {a1 : Int32} {S : Mem} {o : (Int32 × Mem)} (hF : Fx E X cX10_sure RX10 5 (some .int) 4) (h : f10_sure N a1 S = some o) (hC : Q = RQ E X (some (.int o.1)) o.2) : J E X Q S 0 [(0, .ref (eA E 57)), (1, .int a1)] [] := by
  unfold f10_sure at h
  refine j_aload_n hF rfl 0 rfl dX10_sure_0 ?_
  refine j_iload_n hF rfl 1 rfl dX10_sure_1 ?_
  obtain ⟨r1, hr1, h⟩ := bnp_some h
  refine j_callV_i (As := [.int a1]) (st := []) hF rfl mv_10_isOne (by decide) (s_57 E _) rfl bw_5_39 rfl (by decide) (Nat.le_of_ble_eq_true rfl) dX10_sure_2 (c10_isOne hr1) ?_
  refine j_if_ne (tgt := 10) hF h (by decide) dX10_sure_5 (fun h => ?_) (fun h => ?_)
  · refine j_iconst (v := (0 : Int32)) hF (by decide) dX10_sure_10 ?_
    refine j_istore_n (lv' := [(2, .int (0 : Int32)), (0, .ref (eA E 57)), (1, .int a1)]) hF rfl (by decide) rfl dX10_sure_11 ?_
    refine j_iconst (v := (0 : Int32)) hF (by decide) dX10_sure_12 ?_
    refine j_istore_n (lv' := [(3, .int (0 : Int32)), (2, .int (0 : Int32)), (0, .ref (eA E 57)), (1, .int a1)]) hF rfl (by decide) rfl dX10_sure_13 ?_
    obtain ⟨z8, hz8, h⟩ := bnp_some h
    refine j_sub (lv' := [(0, .ref (eA E 57)), (1, .int a1), (2, .int (0 : Int32)), (3, .int (0 : Int32))]) hF [2, 3, 1, 0] rfl ?_
    have hx : (fun (x : (Int32 × Mem)) => J E X Q x.2 51 [(2, .int x.1)] []) z8 := by
      exact t10_sure_b51 hF h hC
    exact lp_rule (Jh := fun (s : (Int32 × Int32 × Mem)) => J E X Q s.2.2 14 [(0, .ref (eA E 57)), (1, .int a1), (2, .int s.1), (3, .int s.2.1)] []) (C := fun (x : (Int32 × Mem)) => J E X Q x.2 51 [(2, .int x.1)] []) (fun s o h hC => t10_sure_L14 hF h hC) N ((0 : Int32), (0 : Int32), S) z8 hz8 hx
  · refine j_iconst (v := (-1 : Int32)) hF (by decide) dX10_sure_8 ?_
    obtain rfl := ret1 h
    exact j_iret hF hC dX10_sure_9
set_option maxHeartbeats 1000000 in
theorem c10_sure {E : En} {N : Nat} {a1 : Int32} {S So : Mem} {ro : Int32} (h : f10_sure N a1 S = some (ro, So)) : CT E yX10_sure cX10_sure 5 (some .int) 4 [.ref (eA E 57), .int a1] S (some (.int ro)) So :=
  CT_of (by decide) (Nat.le_of_ble_eq_true rfl) (fun X hF => t10_sure hF h rfl)
def f10_bitsIn_L4 (N : Nat) (v0 : Int32) (v1 : Int32) (v2 : Int32) (S : Mem) : Option ((Int32 × Int32) ⊕ (Int32)) :=
if (12 : Int32) ≤ v2 then
some (.inr (v1))
else
lt_ (v1 + ((v0 >>> (v2 &&& 31)) &&& (1 : Int32))) fun x1 =>
lt_ (v2 + (1 : Int32)) fun x2 =>
some (.inl (x1, x2))
def f10_bitsIn_b24 (N : Nat) (v1 : Int32) (S : Mem) : Option Int32 :=
some (v1)
def f10_bitsIn (N : Nat) (a0 : Int32) (S : Mem) : Option Int32 :=
bnp (lp N (fun s => f10_bitsIn_L4 N a0 s.1 s.2 S) ((0 : Int32), (0 : Int32))) fun z3 =>
f10_bitsIn_b24 N z3 S
set_option maxHeartbeats 1000000 in
theorem t10_bitsIn_L4 {E : En} {X : Cx} {Q : State → Prop} {N : Nat} {v0 : Int32} {v1 : Int32} {v2 : Int32} {S : Mem} {o : ((Int32 × Int32) ⊕ (Int32))} (hF : Fx E X cX10_bitsIn RX10 3 (some .int) 0) (h : f10_bitsIn_L4 N v0 v1 v2 S = some o) (hC : Sum.elim (fun (s : (Int32 × Int32)) => J E X Q S 4 [(0, .int v0), (1, .int s.1), (2, .int s.2)] []) (fun (x : (Int32)) => J E X Q S 24 [(1, .int x)] []) o) : J E X Q S 4 [(0, .int v0), (1, .int v1), (2, .int v2)] [] := by
  unfold f10_bitsIn_L4 at h
  refine j_iload_n hF rfl 2 rfl dX10_bitsIn_4 ?_
  refine j_bipush (v := (12 : Int32)) hF (by decide) dX10_bitsIn_5 ?_
  refine j_icmp_ge (tgt := 24) hF h (by decide) dX10_bitsIn_7 (fun h => ?_) (fun h => ?_)
  · obtain rfl := ret1 h
    refine j_sub (lv' := [(1, .int v1)]) hF [1] rfl ?_
    exact hC
  · refine j_iload_n hF rfl 1 rfl dX10_bitsIn_10 ?_
    refine j_iload_n hF rfl 0 rfl dX10_bitsIn_11 ?_
    refine j_iload_n hF rfl 2 rfl dX10_bitsIn_12 ?_
    refine j_ishr hF dX10_bitsIn_13 ?_
    refine j_iconst (v := (1 : Int32)) hF (by decide) dX10_bitsIn_14 ?_
    refine j_iand hF dX10_bitsIn_15 ?_
    refine j_iadd hF dX10_bitsIn_16 ?_
    refine j_istore_n (lv' := [(1, .int (v1 + ((v0 >>> (v2 &&& 31)) &&& (1 : Int32)))), (0, .int v0), (2, .int v2)]) hF rfl (by decide) rfl dX10_bitsIn_17 ?_
    refine j_nmL h (fun x1 h => ?_)
    refine j_iinc (v := (v2 + (1 : Int32))) (lv' := [(2, .int (v2 + (1 : Int32))), (1, .int x1), (0, .int v0)]) (q := 2) hF rfl (congrArg (fun z => v2 + z) (by decide)) (by decide) rfl dX10_bitsIn_18 ?_
    refine j_nmL h (fun x2 h => ?_)
    refine j_goto (tgt := 4) hF (by decide) dX10_bitsIn_21 ?_
    obtain rfl := ret1 h
    refine j_sub (lv' := [(0, .int v0), (1, .int x1), (2, .int x2)]) hF [2, 1, 0] rfl ?_
    exact hC
set_option maxHeartbeats 1000000 in
theorem t10_bitsIn_b24 {E : En} {X : Cx} {Q : State → Prop} {N : Nat} {v1 : Int32} {S : Mem} {o : Int32} (hF : Fx E X cX10_bitsIn RX10 3 (some .int) 0) (h : f10_bitsIn_b24 N v1 S = some o) (hC : Q = RQ E X (some (.int o)) S) : J E X Q S 24 [(1, .int v1)] [] := by
  unfold f10_bitsIn_b24 at h
  refine j_iload_n hF rfl 0 rfl dX10_bitsIn_24 ?_
  obtain rfl := ret1 h
  exact j_iret hF hC dX10_bitsIn_25
set_option maxHeartbeats 1000000 in
theorem t10_bitsIn {E : En} {X : Cx} {Q : State → Prop} {N : Nat} {a0 : Int32} {S : Mem} {o : Int32} (hF : Fx E X cX10_bitsIn RX10 3 (some .int) 0) (h : f10_bitsIn N a0 S = some o) (hC : Q = RQ E X (some (.int o)) S) : J E X Q S 0 [(0, .int a0)] [] := by
  unfold f10_bitsIn at h
  refine j_iconst (v := (0 : Int32)) hF (by decide) dX10_bitsIn_0 ?_
  refine j_istore_n (lv' := [(1, .int (0 : Int32)), (0, .int a0)]) hF rfl (by decide) rfl dX10_bitsIn_1 ?_
  refine j_iconst (v := (0 : Int32)) hF (by decide) dX10_bitsIn_2 ?_
  refine j_istore_n (lv' := [(2, .int (0 : Int32)), (1, .int (0 : Int32)), (0, .int a0)]) hF rfl (by decide) rfl dX10_bitsIn_3 ?_
  obtain ⟨z3, hz3, h⟩ := bnp_some h
  refine j_sub (lv' := [(0, .int a0), (1, .int (0 : Int32)), (2, .int (0 : Int32))]) hF [2, 1, 0] rfl ?_
  have hx : (fun (x : (Int32)) => J E X Q S 24 [(1, .int x)] []) z3 := by
    exact t10_bitsIn_b24 hF h hC
  exact lp_rule (Jh := fun (s : (Int32 × Int32)) => J E X Q S 4 [(0, .int a0), (1, .int s.1), (2, .int s.2)] []) (C := fun (x : (Int32)) => J E X Q S 24 [(1, .int x)] []) (fun s o h hC => t10_bitsIn_L4 hF h hC) N ((0 : Int32), (0 : Int32)) z3 hz3 hx
set_option maxHeartbeats 1000000 in
theorem c10_bitsIn {E : En} {N : Nat} {a0 : Int32} {S : Mem} {ro : Int32} (h : f10_bitsIn N a0 S = some ro) : CT E yX10_bitsIn cX10_bitsIn 3 (some .int) 0 [.int a0] S (some (.int ro)) S :=
  CT_of (by decide) (Nat.le_of_ble_eq_true rfl) (fun X hF => t10_bitsIn hF h rfl)
def f10_wrong_b85 (N : Nat) (v1 : Int32) (v3 : Int32) (v4 : Int32) (w0 : Int32) (S : Mem) : Option ((Int32 × Int32 × Int32 × Mem) ⊕ (Int32 × Int32 × Mem)) :=
lt_ (v4 + (1 : Int32)) fun x7 =>
some (.inl (w0, v3, x7, S))
def f10_wrong_b72 (N : Nat) (v1 : Int32) (v2 : Int32) (v4 : Int32) (v6 : Int32) (w0 : Int32) (S : Mem) : Option ((Int32 × Int32 × Int32 × Mem) ⊕ (Int32 × Int32 × Mem)) :=
if v2 ≤ v6 then
f10_wrong_b85 N v1 w0 v4 v2 S
else
f10_wrong_b85 N v1 w0 v4 v6 S
def f10_wrong_L19 (N : Nat) (v1 : Int32) (v2 : Int32) (v3 : Int32) (v4 : Int32) (S : Mem) : Option ((Int32 × Int32 × Int32 × Mem) ⊕ (Int32 × Int32 × Mem)) :=
bnp (f10_worlds N S) fun r2 =>
if r2 ≤ v4 then
some (.inr (v2, v3, S))
else
bnd (f10_go N v4 S) fun r3 S4 =>
bnp (f10_falseLines N S4) fun r5 =>
bnp (f10_bitsIn N r5 S4) fun r6 =>
if v2 ≤ r6 then
if r6 = v2 then
f10_wrong_b72 N v1 v2 v4 r6 (v3 &&& r5) S4
else
f10_wrong_b72 N v1 v2 v4 r6 v3 S4
else
f10_wrong_b72 N v1 v2 v4 r6 r5 S4
def f10_wrong_b92 (N : Nat) (v1 : Int32) (v2 : Int32) (v3 : Int32) (S : Mem) : Option (Int32 × Mem) :=
if v1 = 0 then
some ((v2, S))
else
some ((v3, S))
def f10_wrong (N : Nat) (a1 : Int32) (S : Mem) : Option (Int32 × Mem) :=
bnp (f10_in N a1 (0 : Int32) (1 : Int32) S) fun r1 =>
if r1 = 0 then
some (((-1 : Int32), S))
else
bnp (lp N (fun s => f10_wrong_L19 N a1 s.1 s.2.1 s.2.2.1 s.2.2.2) ((13 : Int32), (0 : Int32), (0 : Int32), S)) fun z8 =>
f10_wrong_b92 N a1 z8.1 z8.2.1 z8.2.2
set_option maxHeartbeats 1000000 in
theorem t10_wrong_b85 {E : En} {X : Cx} {Q : State → Prop} {N : Nat} {v1 : Int32} {v3 : Int32} {v4 : Int32} {w0 : Int32} {S : Mem} {o : ((Int32 × Int32 × Int32 × Mem) ⊕ (Int32 × Int32 × Mem))} (hF : Fx E X cX10_wrong RX10 7 (some .int) 3) (h : f10_wrong_b85 N v1 v3 v4 w0 S = some o) (hC : Sum.elim (fun (s : (Int32 × Int32 × Int32 × Mem)) => J E X Q s.2.2.2 19 [(0, .ref (eA E 57)), (1, .int v1), (2, .int s.1), (3, .int s.2.1), (4, .int s.2.2.1)] []) (fun (x : (Int32 × Int32 × Mem)) => J E X Q x.2.2 92 [(1, .int v1), (2, .int x.1), (3, .int x.2.1)] []) o) : J E X Q S 85 [(0, .ref (eA E 57)), (1, .int v1), (3, .int v3), (4, .int v4)] [.int w0] := by
  unfold f10_wrong_b85 at h
  refine j_istore_n (lv' := [(2, .int w0), (0, .ref (eA E 57)), (1, .int v1), (3, .int v3), (4, .int v4)]) hF rfl (by decide) rfl dX10_wrong_85 ?_
  refine j_iinc (v := (v4 + (1 : Int32))) (lv' := [(4, .int (v4 + (1 : Int32))), (2, .int w0), (0, .ref (eA E 57)), (1, .int v1), (3, .int v3)]) (q := 4) hF rfl (congrArg (fun z => v4 + z) (by decide)) (by decide) rfl dX10_wrong_86 ?_
  refine j_nmL h (fun x7 h => ?_)
  refine j_goto (tgt := 19) hF (by decide) dX10_wrong_89 ?_
  obtain rfl := ret1 h
  refine j_sub (lv' := [(0, .ref (eA E 57)), (1, .int v1), (2, .int w0), (3, .int v3), (4, .int x7)]) hF [2, 3, 1, 4, 0] rfl ?_
  exact hC
set_option maxHeartbeats 1000000 in
theorem t10_wrong_b72 {E : En} {X : Cx} {Q : State → Prop} {N : Nat} {v1 : Int32} {v2 : Int32} {v4 : Int32} {v6 : Int32} {w0 : Int32} {S : Mem} {o : ((Int32 × Int32 × Int32 × Mem) ⊕ (Int32 × Int32 × Mem))} (hF : Fx E X cX10_wrong RX10 7 (some .int) 3) (h : f10_wrong_b72 N v1 v2 v4 v6 w0 S = some o) (hC : Sum.elim (fun (s : (Int32 × Int32 × Int32 × Mem)) => J E X Q s.2.2.2 19 [(0, .ref (eA E 57)), (1, .int v1), (2, .int s.1), (3, .int s.2.1), (4, .int s.2.2.1)] []) (fun (x : (Int32 × Int32 × Mem)) => J E X Q x.2.2 92 [(1, .int v1), (2, .int x.1), (3, .int x.2.1)] []) o) : J E X Q S 72 [(0, .ref (eA E 57)), (1, .int v1), (2, .int v2), (4, .int v4), (6, .int v6)] [.int w0] := by
  unfold f10_wrong_b72 at h
  refine j_istore_n (lv' := [(3, .int w0), (0, .ref (eA E 57)), (1, .int v1), (2, .int v2), (4, .int v4), (6, .int v6)]) hF rfl (by decide) rfl dX10_wrong_72 ?_
  refine j_iload hF 5 rfl dX10_wrong_73 ?_
  refine j_iload_n hF rfl 3 rfl dX10_wrong_75 ?_
  refine j_icmp_ge (tgt := 84) hF h (by decide) dX10_wrong_76 (fun h => ?_) (fun h => ?_)
  · refine j_iload_n hF rfl 3 rfl dX10_wrong_84 ?_
    refine j_sub (lv' := [(0, .ref (eA E 57)), (1, .int v1), (3, .int w0), (4, .int v4)]) hF [1, 2, 0, 4] rfl ?_
    exact t10_wrong_b85 hF h hC
  · refine j_iload hF 5 rfl dX10_wrong_79 ?_
    refine j_goto (tgt := 85) hF (by decide) dX10_wrong_81 ?_
    refine j_sub (lv' := [(0, .ref (eA E 57)), (1, .int v1), (3, .int w0), (4, .int v4)]) hF [1, 2, 0, 4] rfl ?_
    exact t10_wrong_b85 hF h hC
set_option maxHeartbeats 1000000 in
theorem t10_wrong_L19 {E : En} {X : Cx} {Q : State → Prop} {N : Nat} {v1 : Int32} {v2 : Int32} {v3 : Int32} {v4 : Int32} {S : Mem} {o : ((Int32 × Int32 × Int32 × Mem) ⊕ (Int32 × Int32 × Mem))} (hF : Fx E X cX10_wrong RX10 7 (some .int) 3) (h : f10_wrong_L19 N v1 v2 v3 v4 S = some o) (hC : Sum.elim (fun (s : (Int32 × Int32 × Int32 × Mem)) => J E X Q s.2.2.2 19 [(0, .ref (eA E 57)), (1, .int v1), (2, .int s.1), (3, .int s.2.1), (4, .int s.2.2.1)] []) (fun (x : (Int32 × Int32 × Mem)) => J E X Q x.2.2 92 [(1, .int v1), (2, .int x.1), (3, .int x.2.1)] []) o) : J E X Q S 19 [(0, .ref (eA E 57)), (1, .int v1), (2, .int v2), (3, .int v3), (4, .int v4)] [] := by
  unfold f10_wrong_L19 at h
  refine j_iload hF 4 rfl dX10_wrong_19 ?_
  refine j_aload_n hF rfl 0 rfl dX10_wrong_21 ?_
  obtain ⟨r2, hr2, h⟩ := bnp_some h
  refine j_callV_i (As := []) (st := [.int v4]) hF rfl mv_10_worlds (by decide) (s_57 E _) rfl bw_5_47 rfl (by decide) (Nat.le_of_ble_eq_true rfl) dX10_wrong_22 (c10_worlds hr2) ?_
  refine j_icmp_ge (tgt := 92) hF h (by decide) dX10_wrong_25 (fun h => ?_) (fun h => ?_)
  · obtain rfl := ret1 h
    refine j_sub (lv' := [(1, .int v1), (2, .int v2), (3, .int v3)]) hF [1, 2, 3] rfl ?_
    exact hC
  · refine j_aload_n hF rfl 0 rfl dX10_wrong_28 ?_
    refine j_iload hF 4 rfl dX10_wrong_29 ?_
    obtain ⟨r3, S4, hr3, h⟩ := bnd_some h
    refine j_callV_v (As := [.int v4]) (st := []) hF rfl mv_10_go (by decide) (s_57 E _) rfl bw_5_55 rfl (by decide) (Nat.le_of_ble_eq_true rfl) dX10_wrong_31 (c10_go hr3) ?_
    refine j_aload_n hF rfl 0 rfl dX10_wrong_34 ?_
    obtain ⟨r5, hr5, h⟩ := bnp_some h
    refine j_callV_i (As := []) (st := []) hF rfl mv_10_falseLines (by decide) (s_57 E _) rfl bw_5_59 rfl (by decide) (Nat.le_of_ble_eq_true rfl) dX10_wrong_35 (c10_falseLines hr5) ?_
    refine j_istore (lv' := [(5, .int r5), (0, .ref (eA E 57)), (1, .int v1), (2, .int v2), (3, .int v3), (4, .int v4)]) hF (by decide) rfl dX10_wrong_38 ?_
    refine j_iload hF 0 rfl dX10_wrong_40 ?_
    obtain ⟨r6, hr6, h⟩ := bnp_some h
    refine j_callS_i (As := [.int r5]) (st := []) hF rfl mv_10_bitsIn bw_5_79 rfl (by decide) (Nat.le_of_ble_eq_true rfl) dX10_wrong_42 (c10_bitsIn hr6) ?_
    refine j_istore (lv' := [(6, .int r6), (5, .int r5), (0, .ref (eA E 57)), (1, .int v1), (2, .int v2), (3, .int v3), (4, .int v4)]) hF (by decide) rfl dX10_wrong_45 ?_
    refine j_iload hF 0 rfl dX10_wrong_47 ?_
    refine j_iload_n hF rfl 4 rfl dX10_wrong_49 ?_
    refine j_icmp_ge (tgt := 58) hF h (by decide) dX10_wrong_50 (fun h => ?_) (fun h => ?_)
    · refine j_iload hF 0 rfl dX10_wrong_58 ?_
      refine j_iload_n hF rfl 4 rfl dX10_wrong_60 ?_
      refine j_icmp_ne (tgt := 71) hF h (by decide) dX10_wrong_61 (fun h => ?_) (fun h => ?_)
      · refine j_iload_n hF rfl 5 rfl dX10_wrong_71 ?_
        refine j_sub (lv' := [(0, .ref (eA E 57)), (1, .int v1), (2, .int v2), (4, .int v4), (6, .int r6)]) hF [2, 3, 4, 6, 0] rfl ?_
        exact t10_wrong_b72 hF h hC
      · refine j_iload_n hF rfl 5 rfl dX10_wrong_64 ?_
        refine j_iload hF 1 rfl dX10_wrong_65 ?_
        refine j_iand hF dX10_wrong_67 ?_
        refine j_goto (tgt := 72) hF (by decide) dX10_wrong_68 ?_
        refine j_sub (lv' := [(0, .ref (eA E 57)), (1, .int v1), (2, .int v2), (4, .int v4), (6, .int r6)]) hF [2, 3, 4, 6, 0] rfl ?_
        exact t10_wrong_b72 hF h hC
    · refine j_iload hF 1 rfl dX10_wrong_53 ?_
      refine j_goto (tgt := 72) hF (by decide) dX10_wrong_55 ?_
      refine j_sub (lv' := [(0, .ref (eA E 57)), (1, .int v1), (2, .int v2), (4, .int v4), (6, .int r6)]) hF [2, 3, 4, 6, 0] rfl ?_
      exact t10_wrong_b72 hF h hC
set_option maxHeartbeats 1000000 in
theorem t10_wrong_b92 {E : En} {X : Cx} {Q : State → Prop} {N : Nat} {v1 : Int32} {v2 : Int32} {v3 : Int32} {S : Mem} {o : (Int32 × Mem)} (hF : Fx E X cX10_wrong RX10 7 (some .int) 3) (h : f10_wrong_b92 N v1 v2 v3 S = some o) (hC : Q = RQ E X (some (.int o.1)) o.2) : J E X Q S 92 [(1, .int v1), (2, .int v2), (3, .int v3)] [] := by
  unfold f10_wrong_b92 at h
  refine j_iload_n hF rfl 0 rfl dX10_wrong_92 ?_
  refine j_if_ne (tgt := 100) hF h (by decide) dX10_wrong_93 (fun h => ?_) (fun h => ?_)
  · refine j_iload_n hF rfl 2 rfl dX10_wrong_100 ?_
    obtain rfl := ret1 h
    exact j_iret hF hC dX10_wrong_101
  · refine j_iload_n hF rfl 1 rfl dX10_wrong_96 ?_
    refine j_goto (tgt := 101) hF (by decide) dX10_wrong_97 ?_
    obtain rfl := ret1 h
    exact j_iret hF hC dX10_wrong_101
set_option maxHeartbeats 1000000 in
theorem t10_wrong {E : En} {X : Cx} {Q : State → Prop} {N : Nat} {a1 : Int32} {S : Mem} {o : (Int32 × Mem)} (hF : Fx E X cX10_wrong RX10 7 (some .int) 3) (h : f10_wrong N a1 S = some o) (hC : Q = RQ E X (some (.int o.1)) o.2) : J E X Q S 0 [(0, .ref (eA E 57)), (1, .int a1)] [] := by
  unfold f10_wrong at h
  refine j_iload_n hF rfl 1 rfl dX10_wrong_0 ?_
  refine j_iconst (v := (0 : Int32)) hF (by decide) dX10_wrong_1 ?_
  refine j_iconst (v := (1 : Int32)) hF (by decide) dX10_wrong_2 ?_
  obtain ⟨r1, hr1, h⟩ := bnp_some h
  refine j_callS_i (As := [.int a1, .int (0 : Int32), .int (1 : Int32)]) (st := []) hF rfl mv_10_in bw_4_201 rfl (by decide) (Nat.le_of_ble_eq_true rfl) dX10_wrong_3 (c10_in hr1) ?_
  refine j_if_ne (tgt := 11) hF h (by decide) dX10_wrong_6 (fun h => ?_) (fun h => ?_)
  · refine j_bipush (v := (13 : Int32)) hF (by decide) dX10_wrong_11 ?_
    refine j_istore_n (lv' := [(2, .int (13 : Int32)), (0, .ref (eA E 57)), (1, .int a1)]) hF rfl (by decide) rfl dX10_wrong_13 ?_
    refine j_iconst (v := (0 : Int32)) hF (by decide) dX10_wrong_14 ?_
    refine j_istore_n (lv' := [(3, .int (0 : Int32)), (2, .int (13 : Int32)), (0, .ref (eA E 57)), (1, .int a1)]) hF rfl (by decide) rfl dX10_wrong_15 ?_
    refine j_iconst (v := (0 : Int32)) hF (by decide) dX10_wrong_16 ?_
    refine j_istore (lv' := [(4, .int (0 : Int32)), (3, .int (0 : Int32)), (2, .int (13 : Int32)), (0, .ref (eA E 57)), (1, .int a1)]) hF (by decide) rfl dX10_wrong_17 ?_
    obtain ⟨z8, hz8, h⟩ := bnp_some h
    refine j_sub (lv' := [(0, .ref (eA E 57)), (1, .int a1), (2, .int (13 : Int32)), (3, .int (0 : Int32)), (4, .int (0 : Int32))]) hF [3, 4, 2, 1, 0] rfl ?_
    have hx : (fun (x : (Int32 × Int32 × Mem)) => J E X Q x.2.2 92 [(1, .int a1), (2, .int x.1), (3, .int x.2.1)] []) z8 := by
      exact t10_wrong_b92 hF h hC
    exact lp_rule (Jh := fun (s : (Int32 × Int32 × Int32 × Mem)) => J E X Q s.2.2.2 19 [(0, .ref (eA E 57)), (1, .int a1), (2, .int s.1), (3, .int s.2.1), (4, .int s.2.2.1)] []) (C := fun (x : (Int32 × Int32 × Mem)) => J E X Q x.2.2 92 [(1, .int a1), (2, .int x.1), (3, .int x.2.1)] []) (fun s o h hC => t10_wrong_L19 hF h hC) N ((13 : Int32), (0 : Int32), (0 : Int32), S) z8 hz8 hx
  · refine j_iconst (v := (-1 : Int32)) hF (by decide) dX10_wrong_9 ?_
    obtain rfl := ret1 h
    exact j_iret hF hC dX10_wrong_10
set_option maxHeartbeats 1000000 in
theorem c10_wrong {E : En} {N : Nat} {a1 : Int32} {S So : Mem} {ro : Int32} (h : f10_wrong N a1 S = some (ro, So)) : CT E yX10_wrong cX10_wrong 7 (some .int) 3 [.ref (eA E 57), .int a1] S (some (.int ro)) So :=
  CT_of (by decide) (Nat.le_of_ble_eq_true rfl) (fun X hF => t10_wrong hF h rfl)
def f10_worstOf_L2 (N : Nat) (v1 : Int32) (v2 : Int32) (S : Mem) : Option ((Int32 × Mem) ⊕ (Mem)) :=
if (20 : Int32) ≤ v2 then
some (.inr (S))
else
if v2 < 0 ∨ 20 ≤ v2.toNatClampNeg then none else
lt_ (wr S 66 v2.toNatClampNeg (0 : Int32)) fun S1 =>
lt_ (v2 + (1 : Int32)) fun x2 =>
some (.inl (x2, S1))
def f10_worstOf_b53 (N : Nat) (v1 : Int32) (v2 : Int32) (S : Mem) : Option ((Int32 × Mem) ⊕ (Mem)) :=
lt_ (v2 + (1 : Int32)) fun x7 =>
some (.inl (x7, S))
def f10_worstOf_L23 (N : Nat) (v1 : Int32) (v2 : Int32) (S : Mem) : Option ((Int32 × Mem) ⊕ (Mem)) :=
bnp (f10_worlds N S) fun r4 =>
if r4 ≤ v2 then
some (.inr (S))
else
bnd (f10_canBe N v2 S) fun r5 S6 =>
if r5 = 0 then
f10_worstOf_b53 N v1 v2 S6
else
bnp (f10_shownOf N v1 S6) fun r8 =>
if r8 < 0 ∨ 20 ≤ r8.toNatClampNeg then none else
lt_ ((S6 66).1 r8.toNatClampNeg) fun x9 =>
if r8 < 0 ∨ 20 ≤ r8.toNatClampNeg then none else
lt_ (wr S6 66 r8.toNatClampNeg (x9 + (1 : Int32))) fun S10 =>
f10_worstOf_b53 N v1 v2 S10
def f10_worstOf_b89 (N : Nat) (v3 : Int32) (w0 : Int32) (S : Mem) : Option ((Int32 × Int32) ⊕ (Int32)) :=
lt_ (v3 + (1 : Int32)) fun x13 =>
some (.inl (w0, x13))
def f10_worstOf_L63 (N : Nat) (v2 : Int32) (v3 : Int32) (S : Mem) : Option ((Int32 × Int32) ⊕ (Int32)) :=
if (20 : Int32) ≤ v3 then
some (.inr (v2))
else
if v3 < 0 ∨ 20 ≤ v3.toNatClampNeg then none else
lt_ ((S 66).1 v3.toNatClampNeg) fun x12 =>
if x12 ≤ v2 then
f10_worstOf_b89 N v3 v2 S
else
if v3 < 0 ∨ 20 ≤ v3.toNatClampNeg then none else
lt_ ((S 66).1 v3.toNatClampNeg) fun x14 =>
f10_worstOf_b89 N v3 x14 S
def f10_worstOf_b96 (N : Nat) (v2 : Int32) (S : Mem) : Option (Int32 × Mem) :=
some ((v2, S))
def f10_worstOf_b59 (N : Nat) (S : Mem) : Option (Int32 × Mem) :=
bnp (lp N (fun s => f10_worstOf_L63 N s.1 s.2 S) ((0 : Int32), (0 : Int32))) fun z15 =>
f10_worstOf_b96 N z15 S
def f10_worstOf_b21 (N : Nat) (v1 : Int32) (S : Mem) : Option (Int32 × Mem) :=
bnp (lp N (fun s => f10_worstOf_L23 N v1 s.1 s.2) ((0 : Int32), S)) fun z11 =>
f10_worstOf_b59 N z11
def f10_worstOf (N : Nat) (a1 : Int32) (S : Mem) : Option (Int32 × Mem) :=
bnp (lp N (fun s => f10_worstOf_L2 N a1 s.1 s.2) ((0 : Int32), S)) fun z3 =>
f10_worstOf_b21 N a1 z3
set_option maxHeartbeats 1000000 in
theorem t10_worstOf_L2 {E : En} {X : Cx} {Q : State → Prop} {N : Nat} {v1 : Int32} {v2 : Int32} {S : Mem} {o : ((Int32 × Mem) ⊕ (Mem))} (hF : Fx E X cX10_worstOf RX10 4 (some .int) 4) (h : f10_worstOf_L2 N v1 v2 S = some o) (hC : Sum.elim (fun (s : (Int32 × Mem)) => J E X Q s.2 2 [(0, .ref (eA E 57)), (1, .int v1), (2, .int s.1)] []) (fun (x : (Mem)) => J E X Q x 21 [(0, .ref (eA E 57)), (1, .int v1)] []) o) : J E X Q S 2 [(0, .ref (eA E 57)), (1, .int v1), (2, .int v2)] [] := by
  unfold f10_worstOf_L2 at h
  refine j_iload_n hF rfl 2 rfl dX10_worstOf_2 ?_
  refine j_bipush (v := (20 : Int32)) hF (by decide) dX10_worstOf_3 ?_
  refine j_icmp_ge (tgt := 21) hF h (by decide) dX10_worstOf_5 (fun h => ?_) (fun h => ?_)
  · obtain rfl := ret1 h
    refine j_sub (lv' := [(0, .ref (eA E 57)), (1, .int v1)]) hF [0, 1] rfl ?_
    exact hC
  · refine j_aload_n hF rfl 0 rfl dX10_worstOf_8 ?_
    refine gf10_16 hF (by decide) (s_57 E _) rfl bw_4_151 dX10_worstOf_9 ?_
    refine j_iload_n hF rfl 2 rfl dX10_worstOf_12 ?_
    refine j_iconst (v := (0 : Int32)) hF (by decide) dX10_worstOf_13 ?_
    refine j_iast hF (by decide) (s_66 E) h dX10_worstOf_14 (fun h => ?_)
    refine j_nmM h (fun S1 h => ?_)
    refine j_iinc (v := (v2 + (1 : Int32))) (lv' := [(2, .int (v2 + (1 : Int32))), (0, .ref (eA E 57)), (1, .int v1)]) (q := 2) hF rfl (congrArg (fun z => v2 + z) (by decide)) (by decide) rfl dX10_worstOf_15 ?_
    refine j_nmL h (fun x2 h => ?_)
    refine j_goto (tgt := 2) hF (by decide) dX10_worstOf_18 ?_
    obtain rfl := ret1 h
    refine j_sub (lv' := [(0, .ref (eA E 57)), (1, .int v1), (2, .int x2)]) hF [1, 2, 0] rfl ?_
    exact hC
set_option maxHeartbeats 1000000 in
theorem t10_worstOf_b53 {E : En} {X : Cx} {Q : State → Prop} {N : Nat} {v1 : Int32} {v2 : Int32} {S : Mem} {o : ((Int32 × Mem) ⊕ (Mem))} (hF : Fx E X cX10_worstOf RX10 4 (some .int) 4) (h : f10_worstOf_b53 N v1 v2 S = some o) (hC : Sum.elim (fun (s : (Int32 × Mem)) => J E X Q s.2 23 [(0, .ref (eA E 57)), (1, .int v1), (2, .int s.1)] []) (fun (x : (Mem)) => J E X Q x 59 [(0, .ref (eA E 57))] []) o) : J E X Q S 53 [(0, .ref (eA E 57)), (1, .int v1), (2, .int v2)] [] := by
  unfold f10_worstOf_b53 at h
  refine j_iinc (v := (v2 + (1 : Int32))) (lv' := [(2, .int (v2 + (1 : Int32))), (0, .ref (eA E 57)), (1, .int v1)]) (q := 2) hF rfl (congrArg (fun z => v2 + z) (by decide)) (by decide) rfl dX10_worstOf_53 ?_
  refine j_nmL h (fun x7 h => ?_)
  refine j_goto (tgt := 23) hF (by decide) dX10_worstOf_56 ?_
  obtain rfl := ret1 h
  refine j_sub (lv' := [(0, .ref (eA E 57)), (1, .int v1), (2, .int x7)]) hF [1, 2, 0] rfl ?_
  exact hC
set_option maxHeartbeats 1000000 in
theorem t10_worstOf_L23 {E : En} {X : Cx} {Q : State → Prop} {N : Nat} {v1 : Int32} {v2 : Int32} {S : Mem} {o : ((Int32 × Mem) ⊕ (Mem))} (hF : Fx E X cX10_worstOf RX10 4 (some .int) 4) (h : f10_worstOf_L23 N v1 v2 S = some o) (hC : Sum.elim (fun (s : (Int32 × Mem)) => J E X Q s.2 23 [(0, .ref (eA E 57)), (1, .int v1), (2, .int s.1)] []) (fun (x : (Mem)) => J E X Q x 59 [(0, .ref (eA E 57))] []) o) : J E X Q S 23 [(0, .ref (eA E 57)), (1, .int v1), (2, .int v2)] [] := by
  unfold f10_worstOf_L23 at h
  refine j_iload_n hF rfl 2 rfl dX10_worstOf_23 ?_
  refine j_aload_n hF rfl 0 rfl dX10_worstOf_24 ?_
  obtain ⟨r4, hr4, h⟩ := bnp_some h
  refine j_callV_i (As := []) (st := [.int v2]) hF rfl mv_10_worlds (by decide) (s_57 E _) rfl bw_5_47 rfl (by decide) (Nat.le_of_ble_eq_true rfl) dX10_worstOf_25 (c10_worlds hr4) ?_
  refine j_icmp_ge (tgt := 59) hF h (by decide) dX10_worstOf_28 (fun h => ?_) (fun h => ?_)
  · obtain rfl := ret1 h
    refine j_sub (lv' := [(0, .ref (eA E 57))]) hF [0] rfl ?_
    exact hC
  · refine j_aload_n hF rfl 0 rfl dX10_worstOf_31 ?_
    refine j_iload_n hF rfl 2 rfl dX10_worstOf_32 ?_
    obtain ⟨r5, S6, hr5, h⟩ := bnd_some h
    refine j_callV_i (As := [.int v2]) (st := []) hF rfl mv_10_canBe (by decide) (s_57 E _) rfl bw_5_51 rfl (by decide) (Nat.le_of_ble_eq_true rfl) dX10_worstOf_33 (c10_canBe hr5) ?_
    refine j_if_eq (tgt := 53) hF h (by decide) dX10_worstOf_36 (fun h => ?_) (fun h => ?_)
    · exact t10_worstOf_b53 hF h hC
    · refine j_aload_n hF rfl 0 rfl dX10_worstOf_39 ?_
      refine gf10_16 hF (by decide) (s_57 E _) rfl bw_4_151 dX10_worstOf_40 ?_
      refine j_aload_n hF rfl 0 rfl dX10_worstOf_43 ?_
      refine j_iload_n hF rfl 1 rfl dX10_worstOf_44 ?_
      obtain ⟨r8, hr8, h⟩ := bnp_some h
      refine j_callV_i (As := [.int v1]) (st := [.ref (eA E 66)]) hF rfl mv_10_shownOf (by decide) (s_57 E _) rfl bw_5_67 rfl (by decide) (Nat.le_of_ble_eq_true rfl) dX10_worstOf_45 (c10_shownOf hr8) ?_
      refine j_dup2 hF rfl rfl dX10_worstOf_48 ?_
      refine j_iald hF (by decide) (s_66 E) h dX10_worstOf_49 (fun h => ?_)
      refine j_nmT h (fun x9 h => ?_)
      refine j_iconst (v := (1 : Int32)) hF (by decide) dX10_worstOf_50 ?_
      refine j_iadd hF dX10_worstOf_51 ?_
      refine j_iast hF (by decide) (s_66 E) h dX10_worstOf_52 (fun h => ?_)
      refine j_nmM h (fun S10 h => ?_)
      exact t10_worstOf_b53 hF h hC
set_option maxHeartbeats 1000000 in
theorem t10_worstOf_b89 {E : En} {X : Cx} {Q : State → Prop} {N : Nat} {v3 : Int32} {w0 : Int32} {S : Mem} {o : ((Int32 × Int32) ⊕ (Int32))} (hF : Fx E X cX10_worstOf RX10 4 (some .int) 4) (h : f10_worstOf_b89 N v3 w0 S = some o) (hC : Sum.elim (fun (s : (Int32 × Int32)) => J E X Q S 63 [(0, .ref (eA E 57)), (2, .int s.1), (3, .int s.2)] []) (fun (x : (Int32)) => J E X Q S 96 [(2, .int x)] []) o) : J E X Q S 89 [(0, .ref (eA E 57)), (3, .int v3)] [.int w0] := by
  unfold f10_worstOf_b89 at h
  refine j_istore_n (lv' := [(2, .int w0), (0, .ref (eA E 57)), (3, .int v3)]) hF rfl (by decide) rfl dX10_worstOf_89 ?_
  refine j_iinc (v := (v3 + (1 : Int32))) (lv' := [(3, .int (v3 + (1 : Int32))), (2, .int w0), (0, .ref (eA E 57))]) (q := 2) hF rfl (congrArg (fun z => v3 + z) (by decide)) (by decide) rfl dX10_worstOf_90 ?_
  refine j_nmL h (fun x13 h => ?_)
  refine j_goto (tgt := 63) hF (by decide) dX10_worstOf_93 ?_
  obtain rfl := ret1 h
  refine j_sub (lv' := [(0, .ref (eA E 57)), (2, .int w0), (3, .int x13)]) hF [2, 1, 0] rfl ?_
  exact hC
set_option maxHeartbeats 1000000 in
theorem t10_worstOf_L63 {E : En} {X : Cx} {Q : State → Prop} {N : Nat} {v2 : Int32} {v3 : Int32} {S : Mem} {o : ((Int32 × Int32) ⊕ (Int32))} (hF : Fx E X cX10_worstOf RX10 4 (some .int) 4) (h : f10_worstOf_L63 N v2 v3 S = some o) (hC : Sum.elim (fun (s : (Int32 × Int32)) => J E X Q S 63 [(0, .ref (eA E 57)), (2, .int s.1), (3, .int s.2)] []) (fun (x : (Int32)) => J E X Q S 96 [(2, .int x)] []) o) : J E X Q S 63 [(0, .ref (eA E 57)), (2, .int v2), (3, .int v3)] [] := by
  unfold f10_worstOf_L63 at h
  refine j_iload_n hF rfl 2 rfl dX10_worstOf_63 ?_
  refine j_bipush (v := (20 : Int32)) hF (by decide) dX10_worstOf_64 ?_
  refine j_icmp_ge (tgt := 96) hF h (by decide) dX10_worstOf_66 (fun h => ?_) (fun h => ?_)
  · obtain rfl := ret1 h
    refine j_sub (lv' := [(2, .int v2)]) hF [1] rfl ?_
    exact hC
  · refine j_aload_n hF rfl 0 rfl dX10_worstOf_69 ?_
    refine gf10_16 hF (by decide) (s_57 E _) rfl bw_4_151 dX10_worstOf_70 ?_
    refine j_iload_n hF rfl 2 rfl dX10_worstOf_73 ?_
    refine j_iald hF (by decide) (s_66 E) h dX10_worstOf_74 (fun h => ?_)
    refine j_nmT h (fun x12 h => ?_)
    refine j_iload_n hF rfl 1 rfl dX10_worstOf_75 ?_
    refine j_icmp_le (tgt := 88) hF h (by decide) dX10_worstOf_76 (fun h => ?_) (fun h => ?_)
    · refine j_iload_n hF rfl 1 rfl dX10_worstOf_88 ?_
      refine j_sub (lv' := [(0, .ref (eA E 57)), (3, .int v3)]) hF [0, 2] rfl ?_
      exact t10_worstOf_b89 hF h hC
    · refine j_aload_n hF rfl 0 rfl dX10_worstOf_79 ?_
      refine gf10_16 hF (by decide) (s_57 E _) rfl bw_4_151 dX10_worstOf_80 ?_
      refine j_iload_n hF rfl 2 rfl dX10_worstOf_83 ?_
      refine j_iald hF (by decide) (s_66 E) h dX10_worstOf_84 (fun h => ?_)
      refine j_nmT h (fun x14 h => ?_)
      refine j_goto (tgt := 89) hF (by decide) dX10_worstOf_85 ?_
      refine j_sub (lv' := [(0, .ref (eA E 57)), (3, .int v3)]) hF [0, 2] rfl ?_
      exact t10_worstOf_b89 hF h hC
set_option maxHeartbeats 1000000 in
theorem t10_worstOf_b96 {E : En} {X : Cx} {Q : State → Prop} {N : Nat} {v2 : Int32} {S : Mem} {o : (Int32 × Mem)} (hF : Fx E X cX10_worstOf RX10 4 (some .int) 4) (h : f10_worstOf_b96 N v2 S = some o) (hC : Q = RQ E X (some (.int o.1)) o.2) : J E X Q S 96 [(2, .int v2)] [] := by
  unfold f10_worstOf_b96 at h
  refine j_iload_n hF rfl 0 rfl dX10_worstOf_96 ?_
  obtain rfl := ret1 h
  exact j_iret hF hC dX10_worstOf_97
set_option maxHeartbeats 1000000 in
theorem t10_worstOf_b59 {E : En} {X : Cx} {Q : State → Prop} {N : Nat} {S : Mem} {o : (Int32 × Mem)} (hF : Fx E X cX10_worstOf RX10 4 (some .int) 4) (h : f10_worstOf_b59 N S = some o) (hC : Q = RQ E X (some (.int o.1)) o.2) : J E X Q S 59 [(0, .ref (eA E 57))] [] := by
  unfold f10_worstOf_b59 at h
  refine j_iconst (v := (0 : Int32)) hF (by decide) dX10_worstOf_59 ?_
  refine j_istore_n (lv' := [(2, .int (0 : Int32)), (0, .ref (eA E 57))]) hF rfl (by decide) rfl dX10_worstOf_60 ?_
  refine j_iconst (v := (0 : Int32)) hF (by decide) dX10_worstOf_61 ?_
  refine j_istore_n (lv' := [(3, .int (0 : Int32)), (2, .int (0 : Int32)), (0, .ref (eA E 57))]) hF rfl (by decide) rfl dX10_worstOf_62 ?_
  obtain ⟨z15, hz15, h⟩ := bnp_some h
  refine j_sub (lv' := [(0, .ref (eA E 57)), (2, .int (0 : Int32)), (3, .int (0 : Int32))]) hF [2, 1, 0] rfl ?_
  have hx : (fun (x : (Int32)) => J E X Q S 96 [(2, .int x)] []) z15 := by
    exact t10_worstOf_b96 hF h hC
  exact lp_rule (Jh := fun (s : (Int32 × Int32)) => J E X Q S 63 [(0, .ref (eA E 57)), (2, .int s.1), (3, .int s.2)] []) (C := fun (x : (Int32)) => J E X Q S 96 [(2, .int x)] []) (fun s o h hC => t10_worstOf_L63 hF h hC) N ((0 : Int32), (0 : Int32)) z15 hz15 hx
set_option maxHeartbeats 1000000 in
theorem t10_worstOf_b21 {E : En} {X : Cx} {Q : State → Prop} {N : Nat} {v1 : Int32} {S : Mem} {o : (Int32 × Mem)} (hF : Fx E X cX10_worstOf RX10 4 (some .int) 4) (h : f10_worstOf_b21 N v1 S = some o) (hC : Q = RQ E X (some (.int o.1)) o.2) : J E X Q S 21 [(0, .ref (eA E 57)), (1, .int v1)] [] := by
  unfold f10_worstOf_b21 at h
  refine j_iconst (v := (0 : Int32)) hF (by decide) dX10_worstOf_21 ?_
  refine j_istore_n (lv' := [(2, .int (0 : Int32)), (0, .ref (eA E 57)), (1, .int v1)]) hF rfl (by decide) rfl dX10_worstOf_22 ?_
  obtain ⟨z11, hz11, h⟩ := bnp_some h
  refine j_sub (lv' := [(0, .ref (eA E 57)), (1, .int v1), (2, .int (0 : Int32))]) hF [1, 2, 0] rfl ?_
  have hx : (fun (x : (Mem)) => J E X Q x 59 [(0, .ref (eA E 57))] []) z11 := by
    exact t10_worstOf_b59 hF h hC
  exact lp_rule (Jh := fun (s : (Int32 × Mem)) => J E X Q s.2 23 [(0, .ref (eA E 57)), (1, .int v1), (2, .int s.1)] []) (C := fun (x : (Mem)) => J E X Q x 59 [(0, .ref (eA E 57))] []) (fun s o h hC => t10_worstOf_L23 hF h hC) N ((0 : Int32), S) z11 hz11 hx
set_option maxHeartbeats 1000000 in
theorem t10_worstOf {E : En} {X : Cx} {Q : State → Prop} {N : Nat} {a1 : Int32} {S : Mem} {o : (Int32 × Mem)} (hF : Fx E X cX10_worstOf RX10 4 (some .int) 4) (h : f10_worstOf N a1 S = some o) (hC : Q = RQ E X (some (.int o.1)) o.2) : J E X Q S 0 [(0, .ref (eA E 57)), (1, .int a1)] [] := by
  unfold f10_worstOf at h
  refine j_iconst (v := (0 : Int32)) hF (by decide) dX10_worstOf_0 ?_
  refine j_istore_n (lv' := [(2, .int (0 : Int32)), (0, .ref (eA E 57)), (1, .int a1)]) hF rfl (by decide) rfl dX10_worstOf_1 ?_
  obtain ⟨z3, hz3, h⟩ := bnp_some h
  refine j_sub (lv' := [(0, .ref (eA E 57)), (1, .int a1), (2, .int (0 : Int32))]) hF [1, 2, 0] rfl ?_
  have hx : (fun (x : (Mem)) => J E X Q x 21 [(0, .ref (eA E 57)), (1, .int a1)] []) z3 := by
    exact t10_worstOf_b21 hF h hC
  exact lp_rule (Jh := fun (s : (Int32 × Mem)) => J E X Q s.2 2 [(0, .ref (eA E 57)), (1, .int a1), (2, .int s.1)] []) (C := fun (x : (Mem)) => J E X Q x 21 [(0, .ref (eA E 57)), (1, .int a1)] []) (fun s o h hC => t10_worstOf_L2 hF h hC) N ((0 : Int32), S) z3 hz3 hx
set_option maxHeartbeats 1000000 in
theorem c10_worstOf {E : En} {N : Nat} {a1 : Int32} {S So : Mem} {ro : Int32} (h : f10_worstOf N a1 S = some (ro, So)) : CT E yX10_worstOf cX10_worstOf 4 (some .int) 4 [.ref (eA E 57), .int a1] S (some (.int ro)) So :=
  CT_of (by decide) (Nat.le_of_ble_eq_true rfl) (fun X hF => t10_worstOf hF h rfl)
