def f10_in (N : Nat) (a0 : Int32) (a1 : Int32) (a2 : Int32) (S : Mem) : Option Int32 :=
if a0 < a1 then
some ((0 : Int32))
else
if a2 < a0 then
some ((0 : Int32))
else
some ((1 : Int32))
set_option maxHeartbeats 1000000 in
theorem t10_in {E : En} {X : Cx} {Q : State → Prop} {N : Nat} {a0 : Int32} {a1 : Int32} {a2 : Int32} {S : Mem} {o : Int32} (hF : Fx E X cX10_in RX10 3 (some .boolean) 0) (h : f10_in N a0 a1 a2 S = some o) (hC : Q = RQ E X (some (.int o)) S) : J E X Q S 0 [(0, .int a0), (1, .int a1), (2, .int a2)] [] := by
  unfold f10_in at h
  refine j_iload_n hF rfl 0 rfl dX10_in_0 ?_
  refine j_iload_n hF rfl 1 rfl dX10_in_1 ?_
  refine j_icmp_lt (tgt := 14) hF h (by decide) dX10_in_2 (fun h => ?_) (fun h => ?_)
  · refine j_iconst (v := (0 : Int32)) hF (by decide) dX10_in_14 ?_
    obtain rfl := ret1 h
    exact j_ret_boolean hF (by decide) hC dX10_in_15
  · refine j_iload_n hF rfl 0 rfl dX10_in_5 ?_
    refine j_iload_n hF rfl 2 rfl dX10_in_6 ?_
    refine j_icmp_gt (tgt := 14) hF h (by decide) dX10_in_7 (fun h => ?_) (fun h => ?_)
    · refine j_iconst (v := (0 : Int32)) hF (by decide) dX10_in_14 ?_
      obtain rfl := ret1 h
      exact j_ret_boolean hF (by decide) hC dX10_in_15
    · refine j_iconst (v := (1 : Int32)) hF (by decide) dX10_in_10 ?_
      refine j_goto (tgt := 15) hF (by decide) dX10_in_11 ?_
      obtain rfl := ret1 h
      exact j_ret_boolean hF (by decide) hC dX10_in_15
set_option maxHeartbeats 1000000 in
theorem c10_in {E : En} {N : Nat} {a0 : Int32} {a1 : Int32} {a2 : Int32} {S : Mem} {ro : Int32} (h : f10_in N a0 a1 a2 S = some ro) : CT E yX10_in cX10_in 3 (some .boolean) 0 [.int a0, .int a1, .int a2] S (some (.int ro)) S :=
  CT_of (by decide) (Nat.le_of_ble_eq_true rfl) (fun X hF => t10_in hF h rfl)
def f10_type_L32 (N : Nat) (v1 : Int64) (v4 : Int32) (S : Mem) : Option ((Int32 × Mem) ⊕ (Mem)) :=
if v4 < 0 then
some (.inr (S))
else
if ((S 57).1 2) < 0 ∨ 200 ≤ ((S 57).1 2).toNatClampNeg then none else
lt_ (wr S 58 ((S 57).1 2).toNatClampNeg (vp_nar .byte ((v1 >>> (((8 : Int32) * v4).toInt64 &&& 63)) &&& (255 : Int64)).toInt32.toInt8.toInt32)) fun S3 =>
lt_ (wr S3 57 2 (((S3 57).1 2) + (1 : Int32))) fun S4 =>
lt_ (v4 + (-1 : Int32)) fun x5 =>
some (.inl (x5, S4))
def f10_type_b75 (N : Nat) (S : Mem) : Option (Int32 × Mem) :=
some ((((S 57).1 2), S))
def f10_type (N : Nat) (a1 : Int64) (a3 : Int32) (S : Mem) : Option (Int32 × Mem) :=
bnp (f10_in N a3 (1 : Int32) (8 : Int32) S) fun r1 =>
if r1 = 0 then
some (((-1 : Int32), S))
else
if (((S 57).1 2) + a3) ≤ (200 : Int32) then
lt_ (a3 - (1 : Int32)) fun x2 =>
bnp (lp N (fun s => f10_type_L32 N a1 s.1 s.2) (x2, S)) fun z6 =>
f10_type_b75 N z6
else
some (((-3 : Int32), S))
set_option maxHeartbeats 1000000 in
theorem t10_type_L32 {E : En} {X : Cx} {Q : State → Prop} {N : Nat} {v1 : Int64} {v4 : Int32} {S : Mem} {o : ((Int32 × Mem) ⊕ (Mem))} (hF : Fx E X cX10_type RX10 5 (some .int) 1) (h : f10_type_L32 N v1 v4 S = some o) (hC : Sum.elim (fun (s : (Int32 × Mem)) => J E X Q s.2 32 [(0, .ref (eA E 57)), (1, .long v1), (4, .int s.1)] []) (fun (x : (Mem)) => J E X Q x 75 [(0, .ref (eA E 57))] []) o) : J E X Q S 32 [(0, .ref (eA E 57)), (1, .long v1), (4, .int v4)] [] := by
  unfold f10_type_L32 at h
  refine j_iload hF 2 rfl dX10_type_32 ?_
  refine j_if_lt (tgt := 75) hF h (by decide) dX10_type_34 (fun h => ?_) (fun h => ?_)
  · obtain rfl := ret1 h
    refine j_sub (lv' := [(0, .ref (eA E 57))]) hF [0] rfl ?_
    exact hC
  · refine j_aload_n hF rfl 0 rfl dX10_type_37 ?_
    refine gf10_1 hF (by decide) (s_57 E _) rfl bw_4_136 dX10_type_38 ?_
    refine j_aload_n hF rfl 0 rfl dX10_type_41 ?_
    refine gf10_2 hF (by decide) (s_57 E _) rfl bw_4_137 dX10_type_42 ?_
    refine j_lload_n hF rfl 1 rfl dX10_type_45 ?_
    refine j_bipush (v := (8 : Int32)) hF (by decide) dX10_type_46 ?_
    refine j_iload hF 2 rfl dX10_type_48 ?_
    refine j_imul hF dX10_type_50 ?_
    refine j_lshr hF dX10_type_51 ?_
    refine j_ldc2 (v := (255 : Int64)) hF bw_4_204 dX10_type_52 ?_
    refine j_land hF dX10_type_55 ?_
    refine j_l2i hF dX10_type_56 ?_
    refine j_i2b hF dX10_type_57 ?_
    refine j_bast hF (by decide) (s_58 E) h dX10_type_58 (fun h => ?_)
    refine j_nmM h (fun S3 h => ?_)
    refine j_aload_n hF rfl 0 rfl dX10_type_59 ?_
    refine j_dup hF rfl dX10_type_60 ?_
    refine gf10_2 hF (by decide) (s_57 E _) rfl bw_4_137 dX10_type_61 ?_
    refine j_iconst (v := (1 : Int32)) hF (by decide) dX10_type_64 ?_
    refine j_iadd hF dX10_type_65 ?_
    refine pf10_2 hF (by decide) (s_57 E _) (s_57 E _) (Nat.le_of_ble_eq_true rfl) bw_4_137 dX10_type_66 ?_
    refine j_nmM h (fun S4 h => ?_)
    refine j_iinc (v := (v4 + (-1 : Int32))) (lv' := [(4, .int (v4 + (-1 : Int32))), (0, .ref (eA E 57)), (1, .long v1)]) (q := 2) hF rfl (congrArg (fun z => v4 + z) (by decide)) (by decide) rfl dX10_type_69 ?_
    refine j_nmL h (fun x5 h => ?_)
    refine j_goto (tgt := 32) hF (by decide) dX10_type_72 ?_
    obtain rfl := ret1 h
    refine j_sub (lv' := [(0, .ref (eA E 57)), (1, .long v1), (4, .int x5)]) hF [1, 2, 0] rfl ?_
    exact hC
set_option maxHeartbeats 1000000 in
theorem t10_type_b75 {E : En} {X : Cx} {Q : State → Prop} {N : Nat} {S : Mem} {o : (Int32 × Mem)} (hF : Fx E X cX10_type RX10 5 (some .int) 1) (h : f10_type_b75 N S = some o) (hC : Q = RQ E X (some (.int o.1)) o.2) : J E X Q S 75 [(0, .ref (eA E 57))] [] := by
  unfold f10_type_b75 at h
  refine j_aload_n hF rfl 0 rfl dX10_type_75 ?_
  refine gf10_2 hF (by decide) (s_57 E _) rfl bw_4_137 dX10_type_76 ?_
  obtain rfl := ret1 h
  exact j_iret hF hC dX10_type_79
set_option maxHeartbeats 1000000 in
theorem t10_type {E : En} {X : Cx} {Q : State → Prop} {N : Nat} {a1 : Int64} {a3 : Int32} {S : Mem} {o : (Int32 × Mem)} (hF : Fx E X cX10_type RX10 5 (some .int) 1) (h : f10_type N a1 a3 S = some o) (hC : Q = RQ E X (some (.int o.1)) o.2) : J E X Q S 0 [(0, .ref (eA E 57)), (1, .long a1), (3, .int a3)] [] := by
  unfold f10_type at h
  refine j_iload_n hF rfl 2 rfl dX10_type_0 ?_
  refine j_iconst (v := (1 : Int32)) hF (by decide) dX10_type_1 ?_
  refine j_bipush (v := (8 : Int32)) hF (by decide) dX10_type_2 ?_
  obtain ⟨r1, hr1, h⟩ := bnp_some h
  refine j_callS_i (As := [.int a3, .int (1 : Int32), .int (8 : Int32)]) (st := []) hF rfl mv_10_in bw_4_201 rfl (by decide) (Nat.le_of_ble_eq_true rfl) dX10_type_4 (c10_in hr1) ?_
  refine j_if_ne (tgt := 12) hF h (by decide) dX10_type_7 (fun h => ?_) (fun h => ?_)
  · refine j_aload_n hF rfl 0 rfl dX10_type_12 ?_
    refine gf10_2 hF (by decide) (s_57 E _) rfl bw_4_137 dX10_type_13 ?_
    refine j_iload_n hF rfl 2 rfl dX10_type_16 ?_
    refine j_iadd hF dX10_type_17 ?_
    refine j_sipush (v := (200 : Int32)) hF (by decide) dX10_type_18 ?_
    refine j_icmp_le (tgt := 27) hF h (by decide) dX10_type_21 (fun h => ?_) (fun h => ?_)
    · refine j_iload_n hF rfl 2 rfl dX10_type_27 ?_
      refine j_iconst (v := (1 : Int32)) hF (by decide) dX10_type_28 ?_
      refine j_isub hF dX10_type_29 ?_
      refine j_istore (lv' := [(4, .int (a3 - (1 : Int32))), (0, .ref (eA E 57)), (1, .long a1), (3, .int a3)]) hF (by decide) rfl dX10_type_30 ?_
      refine j_nmL h (fun x2 h => ?_)
      obtain ⟨z6, hz6, h⟩ := bnp_some h
      refine j_sub (lv' := [(0, .ref (eA E 57)), (1, .long a1), (4, .int x2)]) hF [1, 2, 0] rfl ?_
      have hx : (fun (x : (Mem)) => J E X Q x 75 [(0, .ref (eA E 57))] []) z6 := by
        exact t10_type_b75 hF h hC
      exact lp_rule (Jh := fun (s : (Int32 × Mem)) => J E X Q s.2 32 [(0, .ref (eA E 57)), (1, .long a1), (4, .int s.1)] []) (C := fun (x : (Mem)) => J E X Q x 75 [(0, .ref (eA E 57))] []) (fun s o h hC => t10_type_L32 hF h hC) N (x2, S) z6 hz6 hx
    · refine j_bipush (v := (-3 : Int32)) hF (by decide) dX10_type_24 ?_
      obtain rfl := ret1 h
      exact j_iret hF hC dX10_type_26
  · refine j_iconst (v := (-1 : Int32)) hF (by decide) dX10_type_10 ?_
    obtain rfl := ret1 h
    exact j_iret hF hC dX10_type_11
set_option maxHeartbeats 1000000 in
theorem c10_type {E : En} {N : Nat} {a1 : Int64} {a3 : Int32} {S So : Mem} {ro : Int32} (h : f10_type N a1 a3 S = some (ro, So)) : CT E yX10_type cX10_type 5 (some .int) 1 [.ref (eA E 57), .long a1, .int a3] S (some (.int ro)) So :=
  CT_of (by decide) (Nat.le_of_ble_eq_true rfl) (fun X hF => t10_type hF h rfl)
def f10_clear (N : Nat) (S : Mem) : Option (Int32 × Mem) :=
lt_ ((S 57).1 2) fun x1 =>
lt_ (wr S 57 2 (0 : Int32)) fun S2 =>
some ((x1, S2))
set_option maxHeartbeats 1000000 in
theorem t10_clear {E : En} {X : Cx} {Q : State → Prop} {N : Nat} {S : Mem} {o : (Int32 × Mem)} (hF : Fx E X cX10_clear RX10 2 (some .int) 0) (h : f10_clear N S = some o) (hC : Q = RQ E X (some (.int o.1)) o.2) : J E X Q S 0 [(0, .ref (eA E 57))] [] := by
  unfold f10_clear at h
  refine j_aload_n hF rfl 0 rfl dX10_clear_0 ?_
  refine gf10_2 hF (by decide) (s_57 E _) rfl bw_4_137 dX10_clear_1 ?_
  refine j_istore_n (lv' := [(1, .int ((S 57).1 2)), (0, .ref (eA E 57))]) hF rfl (by decide) rfl dX10_clear_4 ?_
  refine j_nmL h (fun x1 h => ?_)
  refine j_aload_n hF rfl 1 rfl dX10_clear_5 ?_
  refine j_iconst (v := (0 : Int32)) hF (by decide) dX10_clear_6 ?_
  refine pf10_2 hF (by decide) (s_57 E _) (s_57 E _) (Nat.le_of_ble_eq_true rfl) bw_4_137 dX10_clear_7 ?_
  refine j_nmM h (fun S2 h => ?_)
  refine j_iload_n hF rfl 0 rfl dX10_clear_10 ?_
  obtain rfl := ret1 h
  exact j_iret hF hC dX10_clear_11
set_option maxHeartbeats 1000000 in
theorem c10_clear {E : En} {N : Nat} {S So : Mem} {ro : Int32} (h : f10_clear N S = some (ro, So)) : CT E yX10_clear cX10_clear 2 (some .int) 0 [.ref (eA E 57)] S (some (.int ro)) So :=
  CT_of (by decide) (Nat.le_of_ble_eq_true rfl) (fun X hF => t10_clear hF h rfl)
def f10_here (N : Nat) (S : Mem) : Option Int32 :=
if ((S 57).1 2) ≤ ((S 57).1 6) then
some ((-1 : Int32))
else
if ((S 57).1 6) < 0 ∨ 200 ≤ ((S 57).1 6).toNatClampNeg then none else
lt_ ((S 58).1 ((S 57).1 6).toNatClampNeg) fun x1 =>
some ((x1 &&& (255 : Int32)))
set_option maxHeartbeats 1000000 in
theorem t10_here {E : En} {X : Cx} {Q : State → Prop} {N : Nat} {S : Mem} {o : Int32} (hF : Fx E X cX10_here RX10 1 (some .int) 0) (h : f10_here N S = some o) (hC : Q = RQ E X (some (.int o)) S) : J E X Q S 0 [(0, .ref (eA E 57))] [] := by
  unfold f10_here at h
  refine j_aload_n hF rfl 0 rfl dX10_here_0 ?_
  refine gf10_6 hF (by decide) (s_57 E _) rfl bw_4_141 dX10_here_1 ?_
  refine j_aload_n hF rfl 0 rfl dX10_here_4 ?_
  refine gf10_2 hF (by decide) (s_57 E _) rfl bw_4_137 dX10_here_5 ?_
  refine j_icmp_ge (tgt := 27) hF h (by decide) dX10_here_8 (fun h => ?_) (fun h => ?_)
  · refine j_iconst (v := (-1 : Int32)) hF (by decide) dX10_here_27 ?_
    obtain rfl := ret1 h
    exact j_iret hF hC dX10_here_28
  · refine j_aload_n hF rfl 0 rfl dX10_here_11 ?_
    refine gf10_1 hF (by decide) (s_57 E _) rfl bw_4_136 dX10_here_12 ?_
    refine j_aload_n hF rfl 0 rfl dX10_here_15 ?_
    refine gf10_6 hF (by decide) (s_57 E _) rfl bw_4_141 dX10_here_16 ?_
    refine j_bald hF (by decide) (s_58 E) h dX10_here_19 (fun h => ?_)
    refine j_nmT h (fun x1 h => ?_)
    refine j_sipush (v := (255 : Int32)) hF (by decide) dX10_here_20 ?_
    refine j_iand hF dX10_here_23 ?_
    refine j_goto (tgt := 28) hF (by decide) dX10_here_24 ?_
    obtain rfl := ret1 h
    exact j_iret hF hC dX10_here_28
set_option maxHeartbeats 1000000 in
theorem c10_here {E : En} {N : Nat} {S : Mem} {ro : Int32} (h : f10_here N S = some ro) : CT E yX10_here cX10_here 1 (some .int) 0 [.ref (eA E 57)] S (some (.int ro)) S :=
  CT_of (by decide) (Nat.le_of_ble_eq_true rfl) (fun X hF => t10_here hF h rfl)
def f10_nextToken_L0 (N : Nat) (S : Mem) : Option ((Mem) ⊕ (Mem)) :=
bnp (f10_here N S) fun r1 =>
if r1 = (32 : Int32) then
lt_ (wr S 57 6 (((S 57).1 6) + (1 : Int32))) fun S2 =>
some (.inl (S2))
else
some (.inr (S))
def f10_nextToken_b351 (N : Nat) (w0 : Int32) (S : Mem) : Option (Unit × Mem) :=
lt_ (wr S 57 8 w0) fun S10 =>
some (((), S10))
def f10_nextToken_b271 (N : Nat) (v1 : Int32) (w0 : Int32) (S : Mem) : Option ((Mem) ⊕ (Mem)) :=
lt_ (wr S 57 9 w0) fun S14 =>
lt_ (wr S14 57 6 (((S14 57).1 6) + (1 : Int32))) fun S15 =>
some (.inl (S15))
def f10_nextToken_L225 (N : Nat) (v1 : Int32) (S : Mem) : Option ((Mem) ⊕ (Mem)) :=
bnp (f10_here N S) fun r11 =>
bnp (f10_in N r11 (48 : Int32) (57 : Int32) S) fun r12 =>
if r12 = 0 then
some (.inr (S))
else
if ((S 57).1 9) ≤ (99 : Int32) then
bnp (f10_here N S) fun r13 =>
f10_nextToken_b271 N v1 ((((10 : Int32) * ((S 57).1 9)) + r13) - (48 : Int32)) S
else
f10_nextToken_b271 N v1 ((S 57).1 9) S
def f10_nextToken_b322 (N : Nat) (w0 : Int32) (S : Mem) : Option (Unit × Mem) :=
lt_ (wr S 57 8 w0) fun S17 =>
some (((), S17))
def f10_nextToken_b316 (N : Nat) (S : Mem) : Option (Unit × Mem) :=
f10_nextToken_b322 N (6 : Int32) S
def f10_nextToken_b321 (N : Nat) (S : Mem) : Option (Unit × Mem) :=
f10_nextToken_b322 N (4 : Int32) S
def f10_nextToken_b287 (N : Nat) (v1 : Int32) (S : Mem) : Option (Unit × Mem) :=
if (99 : Int32) < ((S 57).1 9) then
f10_nextToken_b316 N S
else
if v1 = (48 : Int32) then
if (((S 57).1 6) - ((S 57).1 7)) ≤ (1 : Int32) then
f10_nextToken_b321 N S
else
f10_nextToken_b316 N S
else
f10_nextToken_b321 N S
def f10_nextToken_b146 (N : Nat) (v2 : Int32) (w0 : Int32) (S : Mem) : Option ((Int32 × Int32 × Mem) ⊕ (Int32 × Int32 × Mem)) :=
lt_ (wr S 57 6 (((S 57).1 6) + (1 : Int32))) fun S21 =>
some (.inl (v2, w0, S21))
def f10_nextToken_b115 (N : Nat) (v3 : Int32) (v4 : Int32) (w0 : Int32) (S : Mem) : Option ((Int32 × Int32 × Mem) ⊕ (Int32 × Int32 × Mem)) :=
if v4 = (6 : Int32) then
bnp (f10_here N S) fun r22 =>
f10_nextToken_b146 N w0 (r22 - (96 : Int32)) S
else
if v4 ≤ (6 : Int32) then
f10_nextToken_b146 N w0 v3 S
else
f10_nextToken_b146 N w0 (99 : Int32) S
def f10_nextToken_L67 (N : Nat) (v2 : Int32) (v3 : Int32) (S : Mem) : Option ((Int32 × Int32 × Mem) ⊕ (Int32 × Int32 × Mem)) :=
bnp (f10_here N S) fun r18 =>
bnp (f10_in N r18 (97 : Int32) (122 : Int32) S) fun r19 =>
if r19 = 0 then
some (.inr (v2, v3, S))
else
lt_ (((S 57).1 6) - ((S 57).1 7)) fun x20 =>
if (6 : Int32) ≤ x20 then
f10_nextToken_b115 N v3 x20 v2 S
else
bnp (f10_here N S) fun r23 =>
f10_nextToken_b115 N v3 x20 ((((27 : Int32) * v2) + r23) - (96 : Int32)) S
def f10_nextToken_b208 (N : Nat) (w0 : Int32) (S : Mem) : Option (Unit × Mem) :=
lt_ (wr S 57 8 w0) fun S25 =>
some (((), S25))
def f10_nextToken_b206 (N : Nat) (S : Mem) : Option (Unit × Mem) :=
f10_nextToken_b208 N (6 : Int32) S
def f10_nextToken_b190 (N : Nat) (v2 : Int32) (v3 : Int32) (S : Mem) : Option (Unit × Mem) :=
if v2 = (91029992 : Int32) then
if v3 = (19 : Int32) then
f10_nextToken_b208 N (2 : Int32) S
else
f10_nextToken_b206 N S
else
f10_nextToken_b206 N S
def f10_nextToken_b175 (N : Nat) (v2 : Int32) (v3 : Int32) (S : Mem) : Option (Unit × Mem) :=
if v2 = (11570 : Int32) then
if v3 = 0 then
f10_nextToken_b208 N (1 : Int32) S
else
f10_nextToken_b190 N v2 v3 S
else
f10_nextToken_b190 N v2 v3 S
def f10_nextToken_b160 (N : Nat) (v2 : Int32) (v3 : Int32) (S : Mem) : Option (Unit × Mem) :=
if v2 = (10793230 : Int32) then
if v3 = 0 then
f10_nextToken_b208 N (0 : Int32) S
else
f10_nextToken_b175 N v2 v3 S
else
f10_nextToken_b175 N v2 v3 S
def f10_nextToken_b22 (N : Nat) (S : Mem) : Option (Unit × Mem) :=
lt_ (wr S 57 7 ((S 57).1 6)) fun S4 =>
lt_ (wr S4 57 9 (0 : Int32)) fun S5 =>
bnp (f10_here N S5) fun r6 =>
if 0 ≤ r6 then
bnp (f10_in N r6 (97 : Int32) (122 : Int32) S5) fun r7 =>
if r7 = 0 then
bnp (f10_in N r6 (48 : Int32) (57 : Int32) S5) fun r8 =>
if r8 = 0 then
lt_ (wr S5 57 6 (((S5 57).1 6) + (1 : Int32))) fun S9 =>
if r6 = (59 : Int32) then
f10_nextToken_b351 N (5 : Int32) S9
else
f10_nextToken_b351 N (6 : Int32) S9
else
bnp (lp N (fun s => f10_nextToken_L225 N r6 s) (S5)) fun z16 =>
f10_nextToken_b287 N r6 z16
else
bnp (lp N (fun s => f10_nextToken_L67 N s.1 s.2.1 s.2.2) ((0 : Int32), (0 : Int32), S5)) fun z24 =>
f10_nextToken_b160 N z24.1 z24.2.1 z24.2.2
else
lt_ (wr S5 57 8 (3 : Int32)) fun S26 =>
some (((), S26))
def f10_nextToken (N : Nat) (S : Mem) : Option (Unit × Mem) :=
bnp (lp N (fun s => f10_nextToken_L0 N s) (S)) fun z3 =>
f10_nextToken_b22 N z3
set_option maxHeartbeats 1000000 in
theorem t10_nextToken_L0 {E : En} {X : Cx} {Q : State → Prop} {N : Nat} {S : Mem} {o : ((Mem) ⊕ (Mem))} (hF : Fx E X cX10_nextToken RX10 5 none 1) (h : f10_nextToken_L0 N S = some o) (hC : Sum.elim (fun (s : (Mem)) => J E X Q s 0 [(0, .ref (eA E 57))] []) (fun (x : (Mem)) => J E X Q x 22 [(0, .ref (eA E 57))] []) o) : J E X Q S 0 [(0, .ref (eA E 57))] [] := by
  unfold f10_nextToken_L0 at h
  refine j_aload_n hF rfl 0 rfl dX10_nextToken_0 ?_
  obtain ⟨r1, hr1, h⟩ := bnp_some h
  refine j_callV_i (As := []) (st := []) hF rfl mv_10_here (by decide) (s_57 E _) rfl bw_4_217 rfl (by decide) (Nat.le_of_ble_eq_true rfl) dX10_nextToken_1 (c10_here hr1) ?_
  refine j_bipush (v := (32 : Int32)) hF (by decide) dX10_nextToken_4 ?_
  refine j_icmp_ne (tgt := 22) hF h (by decide) dX10_nextToken_6 (fun h => ?_) (fun h => ?_)
  · obtain rfl := ret1 h
    exact hC
  · refine j_aload_n hF rfl 0 rfl dX10_nextToken_9 ?_
    refine j_dup hF rfl dX10_nextToken_10 ?_
    refine gf10_6 hF (by decide) (s_57 E _) rfl bw_4_141 dX10_nextToken_11 ?_
    refine j_iconst (v := (1 : Int32)) hF (by decide) dX10_nextToken_14 ?_
    refine j_iadd hF dX10_nextToken_15 ?_
    refine pf10_6 hF (by decide) (s_57 E _) (s_57 E _) (Nat.le_of_ble_eq_true rfl) bw_4_141 dX10_nextToken_16 ?_
    refine j_nmM h (fun S2 h => ?_)
    refine j_goto (tgt := 0) hF (by decide) dX10_nextToken_19 ?_
    obtain rfl := ret1 h
    exact hC
set_option maxHeartbeats 1000000 in
theorem t10_nextToken_b351 {E : En} {X : Cx} {Q : State → Prop} {N : Nat} {w0 : Int32} {S : Mem} {o : (Unit × Mem)} (hF : Fx E X cX10_nextToken RX10 5 none 1) (h : f10_nextToken_b351 N w0 S = some o) (hC : Q = RQ E X (none) o.2) : J E X Q S 351 [] [.int w0, .ref (eA E 57)] := by
  unfold f10_nextToken_b351 at h
  refine pf10_8 hF (by decide) (s_57 E _) (s_57 E _) (Nat.le_of_ble_eq_true rfl) bw_4_143 dX10_nextToken_351 ?_
  refine j_nmM h (fun S10 h => ?_)
  obtain rfl := ret1 h
  exact j_vret hF hC dX10_nextToken_354
set_option maxHeartbeats 1000000 in
theorem t10_nextToken_b271 {E : En} {X : Cx} {Q : State → Prop} {N : Nat} {v1 : Int32} {w0 : Int32} {S : Mem} {o : ((Mem) ⊕ (Mem))} (hF : Fx E X cX10_nextToken RX10 5 none 1) (h : f10_nextToken_b271 N v1 w0 S = some o) (hC : Sum.elim (fun (s : (Mem)) => J E X Q s 225 [(0, .ref (eA E 57)), (1, .int v1)] []) (fun (x : (Mem)) => J E X Q x 287 [(0, .ref (eA E 57)), (1, .int v1)] []) o) : J E X Q S 271 [(0, .ref (eA E 57)), (1, .int v1)] [.int w0, .ref (eA E 57)] := by
  unfold f10_nextToken_b271 at h
  refine pf10_9 hF (by decide) (s_57 E _) (s_57 E _) (Nat.le_of_ble_eq_true rfl) bw_4_144 dX10_nextToken_271 ?_
  refine j_nmM h (fun S14 h => ?_)
  refine j_aload_n hF rfl 0 rfl dX10_nextToken_274 ?_
  refine j_dup hF rfl dX10_nextToken_275 ?_
  refine gf10_6 hF (by decide) (s_57 E _) rfl bw_4_141 dX10_nextToken_276 ?_
  refine j_iconst (v := (1 : Int32)) hF (by decide) dX10_nextToken_279 ?_
  refine j_iadd hF dX10_nextToken_280 ?_
  refine pf10_6 hF (by decide) (s_57 E _) (s_57 E _) (Nat.le_of_ble_eq_true rfl) bw_4_141 dX10_nextToken_281 ?_
  refine j_nmM h (fun S15 h => ?_)
  refine j_goto (tgt := 225) hF (by decide) dX10_nextToken_284 ?_
  obtain rfl := ret1 h
  exact hC
set_option maxHeartbeats 1000000 in
theorem t10_nextToken_L225 {E : En} {X : Cx} {Q : State → Prop} {N : Nat} {v1 : Int32} {S : Mem} {o : ((Mem) ⊕ (Mem))} (hF : Fx E X cX10_nextToken RX10 5 none 1) (h : f10_nextToken_L225 N v1 S = some o) (hC : Sum.elim (fun (s : (Mem)) => J E X Q s 225 [(0, .ref (eA E 57)), (1, .int v1)] []) (fun (x : (Mem)) => J E X Q x 287 [(0, .ref (eA E 57)), (1, .int v1)] []) o) : J E X Q S 225 [(0, .ref (eA E 57)), (1, .int v1)] [] := by
  unfold f10_nextToken_L225 at h
  refine j_aload_n hF rfl 0 rfl dX10_nextToken_225 ?_
  obtain ⟨r11, hr11, h⟩ := bnp_some h
  refine j_callV_i (As := []) (st := []) hF rfl mv_10_here (by decide) (s_57 E _) rfl bw_4_217 rfl (by decide) (Nat.le_of_ble_eq_true rfl) dX10_nextToken_226 (c10_here hr11) ?_
  refine j_bipush (v := (48 : Int32)) hF (by decide) dX10_nextToken_229 ?_
  refine j_bipush (v := (57 : Int32)) hF (by decide) dX10_nextToken_231 ?_
  obtain ⟨r12, hr12, h⟩ := bnp_some h
  refine j_callS_i (As := [.int r11, .int (48 : Int32), .int (57 : Int32)]) (st := []) hF rfl mv_10_in bw_4_201 rfl (by decide) (Nat.le_of_ble_eq_true rfl) dX10_nextToken_233 (c10_in hr12) ?_
  refine j_if_eq (tgt := 287) hF h (by decide) dX10_nextToken_236 (fun h => ?_) (fun h => ?_)
  · obtain rfl := ret1 h
    exact hC
  · refine j_aload_n hF rfl 0 rfl dX10_nextToken_239 ?_
    refine j_aload_n hF rfl 0 rfl dX10_nextToken_240 ?_
    refine gf10_9 hF (by decide) (s_57 E _) rfl bw_4_144 dX10_nextToken_241 ?_
    refine j_bipush (v := (99 : Int32)) hF (by decide) dX10_nextToken_244 ?_
    refine j_icmp_le (tgt := 256) hF h (by decide) dX10_nextToken_246 (fun h => ?_) (fun h => ?_)
    · refine j_bipush (v := (10 : Int32)) hF (by decide) dX10_nextToken_256 ?_
      refine j_aload_n hF rfl 0 rfl dX10_nextToken_258 ?_
      refine gf10_9 hF (by decide) (s_57 E _) rfl bw_4_144 dX10_nextToken_259 ?_
      refine j_imul hF dX10_nextToken_262 ?_
      refine j_aload_n hF rfl 0 rfl dX10_nextToken_263 ?_
      obtain ⟨r13, hr13, h⟩ := bnp_some h
      refine j_callV_i (As := []) (st := [.int ((10 : Int32) * ((S 57).1 9)), .ref (eA E 57)]) hF rfl mv_10_here (by decide) (s_57 E _) rfl bw_4_217 rfl (by decide) (Nat.le_of_ble_eq_true rfl) dX10_nextToken_264 (c10_here hr13) ?_
      refine j_iadd hF dX10_nextToken_267 ?_
      refine j_bipush (v := (48 : Int32)) hF (by decide) dX10_nextToken_268 ?_
      refine j_isub hF dX10_nextToken_270 ?_
      exact t10_nextToken_b271 hF h hC
    · refine j_aload_n hF rfl 0 rfl dX10_nextToken_249 ?_
      refine gf10_9 hF (by decide) (s_57 E _) rfl bw_4_144 dX10_nextToken_250 ?_
      refine j_goto (tgt := 271) hF (by decide) dX10_nextToken_253 ?_
      exact t10_nextToken_b271 hF h hC
set_option maxHeartbeats 1000000 in
theorem t10_nextToken_b322 {E : En} {X : Cx} {Q : State → Prop} {N : Nat} {w0 : Int32} {S : Mem} {o : (Unit × Mem)} (hF : Fx E X cX10_nextToken RX10 5 none 1) (h : f10_nextToken_b322 N w0 S = some o) (hC : Q = RQ E X (none) o.2) : J E X Q S 322 [] [.int w0, .ref (eA E 57)] := by
  unfold f10_nextToken_b322 at h
  refine pf10_8 hF (by decide) (s_57 E _) (s_57 E _) (Nat.le_of_ble_eq_true rfl) bw_4_143 dX10_nextToken_322 ?_
  refine j_nmM h (fun S17 h => ?_)
  refine j_goto (tgt := 354) hF (by decide) dX10_nextToken_325 ?_
  obtain rfl := ret1 h
  exact j_vret hF hC dX10_nextToken_354
set_option maxHeartbeats 1000000 in
theorem t10_nextToken_b316 {E : En} {X : Cx} {Q : State → Prop} {N : Nat} {S : Mem} {o : (Unit × Mem)} (hF : Fx E X cX10_nextToken RX10 5 none 1) (h : f10_nextToken_b316 N S = some o) (hC : Q = RQ E X (none) o.2) : J E X Q S 316 [] [.ref (eA E 57)] := by
  unfold f10_nextToken_b316 at h
  refine j_bipush (v := (6 : Int32)) hF (by decide) dX10_nextToken_316 ?_
  refine j_goto (tgt := 322) hF (by decide) dX10_nextToken_318 ?_
  exact t10_nextToken_b322 hF h hC
set_option maxHeartbeats 1000000 in
theorem t10_nextToken_b321 {E : En} {X : Cx} {Q : State → Prop} {N : Nat} {S : Mem} {o : (Unit × Mem)} (hF : Fx E X cX10_nextToken RX10 5 none 1) (h : f10_nextToken_b321 N S = some o) (hC : Q = RQ E X (none) o.2) : J E X Q S 321 [] [.ref (eA E 57)] := by
  unfold f10_nextToken_b321 at h
  refine j_iconst (v := (4 : Int32)) hF (by decide) dX10_nextToken_321 ?_
  exact t10_nextToken_b322 hF h hC
set_option maxHeartbeats 1000000 in
theorem t10_nextToken_b287 {E : En} {X : Cx} {Q : State → Prop} {N : Nat} {v1 : Int32} {S : Mem} {o : (Unit × Mem)} (hF : Fx E X cX10_nextToken RX10 5 none 1) (h : f10_nextToken_b287 N v1 S = some o) (hC : Q = RQ E X (none) o.2) : J E X Q S 287 [(0, .ref (eA E 57)), (1, .int v1)] [] := by
  unfold f10_nextToken_b287 at h
  refine j_aload_n hF rfl 0 rfl dX10_nextToken_287 ?_
  refine j_aload_n hF rfl 0 rfl dX10_nextToken_288 ?_
  refine gf10_9 hF (by decide) (s_57 E _) rfl bw_4_144 dX10_nextToken_289 ?_
  refine j_bipush (v := (99 : Int32)) hF (by decide) dX10_nextToken_292 ?_
  refine j_icmp_gt (tgt := 316) hF h (by decide) dX10_nextToken_294 (fun h => ?_) (fun h => ?_)
  · refine j_sub (lv' := []) hF [] rfl ?_
    exact t10_nextToken_b316 hF h hC
  · refine j_iload_n hF rfl 1 rfl dX10_nextToken_297 ?_
    refine j_bipush (v := (48 : Int32)) hF (by decide) dX10_nextToken_298 ?_
    refine j_icmp_ne (tgt := 321) hF h (by decide) dX10_nextToken_300 (fun h => ?_) (fun h => ?_)
    · refine j_sub (lv' := []) hF [] rfl ?_
      exact t10_nextToken_b321 hF h hC
    · refine j_aload_n hF rfl 0 rfl dX10_nextToken_303 ?_
      refine gf10_6 hF (by decide) (s_57 E _) rfl bw_4_141 dX10_nextToken_304 ?_
      refine j_aload_n hF rfl 0 rfl dX10_nextToken_307 ?_
      refine gf10_7 hF (by decide) (s_57 E _) rfl bw_4_142 dX10_nextToken_308 ?_
      refine j_isub hF dX10_nextToken_311 ?_
      refine j_iconst (v := (1 : Int32)) hF (by decide) dX10_nextToken_312 ?_
      refine j_icmp_le (tgt := 321) hF h (by decide) dX10_nextToken_313 (fun h => ?_) (fun h => ?_)
      · refine j_sub (lv' := []) hF [] rfl ?_
        exact t10_nextToken_b321 hF h hC
      · refine j_sub (lv' := []) hF [] rfl ?_
        exact t10_nextToken_b316 hF h hC
set_option maxHeartbeats 1000000 in
theorem t10_nextToken_b146 {E : En} {X : Cx} {Q : State → Prop} {N : Nat} {v2 : Int32} {w0 : Int32} {S : Mem} {o : ((Int32 × Int32 × Mem) ⊕ (Int32 × Int32 × Mem))} (hF : Fx E X cX10_nextToken RX10 5 none 1) (h : f10_nextToken_b146 N v2 w0 S = some o) (hC : Sum.elim (fun (s : (Int32 × Int32 × Mem)) => J E X Q s.2.2 67 [(0, .ref (eA E 57)), (2, .int s.1), (3, .int s.2.1)] []) (fun (x : (Int32 × Int32 × Mem)) => J E X Q x.2.2 160 [(0, .ref (eA E 57)), (2, .int x.1), (3, .int x.2.1)] []) o) : J E X Q S 146 [(0, .ref (eA E 57)), (2, .int v2)] [.int w0] := by
  unfold f10_nextToken_b146 at h
  refine j_istore_n (lv' := [(3, .int w0), (0, .ref (eA E 57)), (2, .int v2)]) hF rfl (by decide) rfl dX10_nextToken_146 ?_
  refine j_aload_n hF rfl 1 rfl dX10_nextToken_147 ?_
  refine j_dup hF rfl dX10_nextToken_148 ?_
  refine gf10_6 hF (by decide) (s_57 E _) rfl bw_4_141 dX10_nextToken_149 ?_
  refine j_iconst (v := (1 : Int32)) hF (by decide) dX10_nextToken_152 ?_
  refine j_iadd hF dX10_nextToken_153 ?_
  refine pf10_6 hF (by decide) (s_57 E _) (s_57 E _) (Nat.le_of_ble_eq_true rfl) bw_4_141 dX10_nextToken_154 ?_
  refine j_nmM h (fun S21 h => ?_)
  refine j_goto (tgt := 67) hF (by decide) dX10_nextToken_157 ?_
  obtain rfl := ret1 h
  refine j_sub (lv' := [(0, .ref (eA E 57)), (2, .int v2), (3, .int w0)]) hF [1, 2, 0] rfl ?_
  exact hC
set_option maxHeartbeats 1000000 in
theorem t10_nextToken_b115 {E : En} {X : Cx} {Q : State → Prop} {N : Nat} {v3 : Int32} {v4 : Int32} {w0 : Int32} {S : Mem} {o : ((Int32 × Int32 × Mem) ⊕ (Int32 × Int32 × Mem))} (hF : Fx E X cX10_nextToken RX10 5 none 1) (h : f10_nextToken_b115 N v3 v4 w0 S = some o) (hC : Sum.elim (fun (s : (Int32 × Int32 × Mem)) => J E X Q s.2.2 67 [(0, .ref (eA E 57)), (2, .int s.1), (3, .int s.2.1)] []) (fun (x : (Int32 × Int32 × Mem)) => J E X Q x.2.2 160 [(0, .ref (eA E 57)), (2, .int x.1), (3, .int x.2.1)] []) o) : J E X Q S 115 [(0, .ref (eA E 57)), (3, .int v3), (4, .int v4)] [.int w0] := by
  unfold f10_nextToken_b115 at h
  refine j_istore_n (lv' := [(2, .int w0), (0, .ref (eA E 57)), (3, .int v3), (4, .int v4)]) hF rfl (by decide) rfl dX10_nextToken_115 ?_
  refine j_iload hF 3 rfl dX10_nextToken_116 ?_
  refine j_bipush (v := (6 : Int32)) hF (by decide) dX10_nextToken_118 ?_
  refine j_icmp_ne (tgt := 133) hF h (by decide) dX10_nextToken_120 (fun h => ?_) (fun h => ?_)
  · refine j_iload hF 3 rfl dX10_nextToken_133 ?_
    refine j_bipush (v := (6 : Int32)) hF (by decide) dX10_nextToken_135 ?_
    refine j_icmp_le (tgt := 145) hF h (by decide) dX10_nextToken_137 (fun h => ?_) (fun h => ?_)
    · refine j_iload_n hF rfl 2 rfl dX10_nextToken_145 ?_
      refine j_sub (lv' := [(0, .ref (eA E 57)), (2, .int w0)]) hF [1, 0] rfl ?_
      exact t10_nextToken_b146 hF h hC
    · refine j_bipush (v := (99 : Int32)) hF (by decide) dX10_nextToken_140 ?_
      refine j_goto (tgt := 146) hF (by decide) dX10_nextToken_142 ?_
      refine j_sub (lv' := [(0, .ref (eA E 57)), (2, .int w0)]) hF [1, 0] rfl ?_
      exact t10_nextToken_b146 hF h hC
  · refine j_aload_n hF rfl 1 rfl dX10_nextToken_123 ?_
    obtain ⟨r22, hr22, h⟩ := bnp_some h
    refine j_callV_i (As := []) (st := []) hF rfl mv_10_here (by decide) (s_57 E _) rfl bw_4_217 rfl (by decide) (Nat.le_of_ble_eq_true rfl) dX10_nextToken_124 (c10_here hr22) ?_
    refine j_bipush (v := (96 : Int32)) hF (by decide) dX10_nextToken_127 ?_
    refine j_isub hF dX10_nextToken_129 ?_
    refine j_goto (tgt := 146) hF (by decide) dX10_nextToken_130 ?_
    refine j_sub (lv' := [(0, .ref (eA E 57)), (2, .int w0)]) hF [1, 0] rfl ?_
    exact t10_nextToken_b146 hF h hC
set_option maxHeartbeats 1000000 in
theorem t10_nextToken_L67 {E : En} {X : Cx} {Q : State → Prop} {N : Nat} {v2 : Int32} {v3 : Int32} {S : Mem} {o : ((Int32 × Int32 × Mem) ⊕ (Int32 × Int32 × Mem))} (hF : Fx E X cX10_nextToken RX10 5 none 1) (h : f10_nextToken_L67 N v2 v3 S = some o) (hC : Sum.elim (fun (s : (Int32 × Int32 × Mem)) => J E X Q s.2.2 67 [(0, .ref (eA E 57)), (2, .int s.1), (3, .int s.2.1)] []) (fun (x : (Int32 × Int32 × Mem)) => J E X Q x.2.2 160 [(0, .ref (eA E 57)), (2, .int x.1), (3, .int x.2.1)] []) o) : J E X Q S 67 [(0, .ref (eA E 57)), (2, .int v2), (3, .int v3)] [] := by
  unfold f10_nextToken_L67 at h
  refine j_aload_n hF rfl 0 rfl dX10_nextToken_67 ?_
  obtain ⟨r18, hr18, h⟩ := bnp_some h
  refine j_callV_i (As := []) (st := []) hF rfl mv_10_here (by decide) (s_57 E _) rfl bw_4_217 rfl (by decide) (Nat.le_of_ble_eq_true rfl) dX10_nextToken_68 (c10_here hr18) ?_
  refine j_bipush (v := (97 : Int32)) hF (by decide) dX10_nextToken_71 ?_
  refine j_bipush (v := (122 : Int32)) hF (by decide) dX10_nextToken_73 ?_
  obtain ⟨r19, hr19, h⟩ := bnp_some h
  refine j_callS_i (As := [.int r18, .int (97 : Int32), .int (122 : Int32)]) (st := []) hF rfl mv_10_in bw_4_201 rfl (by decide) (Nat.le_of_ble_eq_true rfl) dX10_nextToken_75 (c10_in hr19) ?_
  refine j_if_eq (tgt := 160) hF h (by decide) dX10_nextToken_78 (fun h => ?_) (fun h => ?_)
  · obtain rfl := ret1 h
    exact hC
  · refine j_aload_n hF rfl 0 rfl dX10_nextToken_81 ?_
    refine gf10_6 hF (by decide) (s_57 E _) rfl bw_4_141 dX10_nextToken_82 ?_
    refine j_aload_n hF rfl 0 rfl dX10_nextToken_85 ?_
    refine gf10_7 hF (by decide) (s_57 E _) rfl bw_4_142 dX10_nextToken_86 ?_
    refine j_isub hF dX10_nextToken_89 ?_
    refine j_istore (lv' := [(4, .int (((S 57).1 6) - ((S 57).1 7))), (0, .ref (eA E 57)), (2, .int v2), (3, .int v3)]) hF (by decide) rfl dX10_nextToken_90 ?_
    refine j_nmL h (fun x20 h => ?_)
    refine j_iload hF 0 rfl dX10_nextToken_92 ?_
    refine j_bipush (v := (6 : Int32)) hF (by decide) dX10_nextToken_94 ?_
    refine j_icmp_ge (tgt := 114) hF h (by decide) dX10_nextToken_96 (fun h => ?_) (fun h => ?_)
    · refine j_iload_n hF rfl 2 rfl dX10_nextToken_114 ?_
      refine j_sub (lv' := [(0, .ref (eA E 57)), (3, .int v3), (4, .int x20)]) hF [1, 3, 0] rfl ?_
      exact t10_nextToken_b115 hF h hC
    · refine j_bipush (v := (27 : Int32)) hF (by decide) dX10_nextToken_99 ?_
      refine j_iload_n hF rfl 2 rfl dX10_nextToken_101 ?_
      refine j_imul hF dX10_nextToken_102 ?_
      refine j_aload_n hF rfl 1 rfl dX10_nextToken_103 ?_
      obtain ⟨r23, hr23, h⟩ := bnp_some h
      refine j_callV_i (As := []) (st := [.int ((27 : Int32) * v2)]) hF rfl mv_10_here (by decide) (s_57 E _) rfl bw_4_217 rfl (by decide) (Nat.le_of_ble_eq_true rfl) dX10_nextToken_104 (c10_here hr23) ?_
      refine j_iadd hF dX10_nextToken_107 ?_
      refine j_bipush (v := (96 : Int32)) hF (by decide) dX10_nextToken_108 ?_
      refine j_isub hF dX10_nextToken_110 ?_
      refine j_goto (tgt := 115) hF (by decide) dX10_nextToken_111 ?_
      refine j_sub (lv' := [(0, .ref (eA E 57)), (3, .int v3), (4, .int x20)]) hF [1, 3, 0] rfl ?_
      exact t10_nextToken_b115 hF h hC
set_option maxHeartbeats 1000000 in
theorem t10_nextToken_b208 {E : En} {X : Cx} {Q : State → Prop} {N : Nat} {w0 : Int32} {S : Mem} {o : (Unit × Mem)} (hF : Fx E X cX10_nextToken RX10 5 none 1) (h : f10_nextToken_b208 N w0 S = some o) (hC : Q = RQ E X (none) o.2) : J E X Q S 208 [] [.int w0, .ref (eA E 57)] := by
  unfold f10_nextToken_b208 at h
  refine pf10_8 hF (by decide) (s_57 E _) (s_57 E _) (Nat.le_of_ble_eq_true rfl) bw_4_143 dX10_nextToken_208 ?_
  refine j_nmM h (fun S25 h => ?_)
  refine j_goto (tgt := 354) hF (by decide) dX10_nextToken_211 ?_
  obtain rfl := ret1 h
  exact j_vret hF hC dX10_nextToken_354
set_option maxHeartbeats 1000000 in
theorem t10_nextToken_b206 {E : En} {X : Cx} {Q : State → Prop} {N : Nat} {S : Mem} {o : (Unit × Mem)} (hF : Fx E X cX10_nextToken RX10 5 none 1) (h : f10_nextToken_b206 N S = some o) (hC : Q = RQ E X (none) o.2) : J E X Q S 206 [] [.ref (eA E 57)] := by
  unfold f10_nextToken_b206 at h
  refine j_bipush (v := (6 : Int32)) hF (by decide) dX10_nextToken_206 ?_
  exact t10_nextToken_b208 hF h hC
set_option maxHeartbeats 1000000 in
theorem t10_nextToken_b190 {E : En} {X : Cx} {Q : State → Prop} {N : Nat} {v2 : Int32} {v3 : Int32} {S : Mem} {o : (Unit × Mem)} (hF : Fx E X cX10_nextToken RX10 5 none 1) (h : f10_nextToken_b190 N v2 v3 S = some o) (hC : Q = RQ E X (none) o.2) : J E X Q S 190 [(2, .int v2), (3, .int v3)] [.ref (eA E 57)] := by
  unfold f10_nextToken_b190 at h
  refine j_iload_n hF rfl 0 rfl dX10_nextToken_190 ?_
  refine j_ldc (v := (91029992 : Int32)) hF bw_4_222 dX10_nextToken_191 ?_
  refine j_icmp_ne (tgt := 206) hF h (by decide) dX10_nextToken_193 (fun h => ?_) (fun h => ?_)
  · refine j_sub (lv' := []) hF [] rfl ?_
    exact t10_nextToken_b206 hF h hC
  · refine j_iload_n hF rfl 1 rfl dX10_nextToken_196 ?_
    refine j_bipush (v := (19 : Int32)) hF (by decide) dX10_nextToken_197 ?_
    refine j_icmp_ne (tgt := 206) hF h (by decide) dX10_nextToken_199 (fun h => ?_) (fun h => ?_)
    · refine j_sub (lv' := []) hF [] rfl ?_
      exact t10_nextToken_b206 hF h hC
    · refine j_iconst (v := (2 : Int32)) hF (by decide) dX10_nextToken_202 ?_
      refine j_goto (tgt := 208) hF (by decide) dX10_nextToken_203 ?_
      refine j_sub (lv' := []) hF [] rfl ?_
      exact t10_nextToken_b208 hF h hC
set_option maxHeartbeats 1000000 in
theorem t10_nextToken_b175 {E : En} {X : Cx} {Q : State → Prop} {N : Nat} {v2 : Int32} {v3 : Int32} {S : Mem} {o : (Unit × Mem)} (hF : Fx E X cX10_nextToken RX10 5 none 1) (h : f10_nextToken_b175 N v2 v3 S = some o) (hC : Q = RQ E X (none) o.2) : J E X Q S 175 [(2, .int v2), (3, .int v3)] [.ref (eA E 57)] := by
  unfold f10_nextToken_b175 at h
  refine j_iload_n hF rfl 0 rfl dX10_nextToken_175 ?_
  refine j_sipush (v := (11570 : Int32)) hF (by decide) dX10_nextToken_176 ?_
  refine j_icmp_ne (tgt := 190) hF h (by decide) dX10_nextToken_179 (fun h => ?_) (fun h => ?_)
  · exact t10_nextToken_b190 hF h hC
  · refine j_iload_n hF rfl 1 rfl dX10_nextToken_182 ?_
    refine j_if_ne (tgt := 190) hF h (by decide) dX10_nextToken_183 (fun h => ?_) (fun h => ?_)
    · exact t10_nextToken_b190 hF h hC
    · refine j_iconst (v := (1 : Int32)) hF (by decide) dX10_nextToken_186 ?_
      refine j_goto (tgt := 208) hF (by decide) dX10_nextToken_187 ?_
      refine j_sub (lv' := []) hF [] rfl ?_
      exact t10_nextToken_b208 hF h hC
set_option maxHeartbeats 1000000 in
theorem t10_nextToken_b160 {E : En} {X : Cx} {Q : State → Prop} {N : Nat} {v2 : Int32} {v3 : Int32} {S : Mem} {o : (Unit × Mem)} (hF : Fx E X cX10_nextToken RX10 5 none 1) (h : f10_nextToken_b160 N v2 v3 S = some o) (hC : Q = RQ E X (none) o.2) : J E X Q S 160 [(0, .ref (eA E 57)), (2, .int v2), (3, .int v3)] [] := by
  unfold f10_nextToken_b160 at h
  refine j_aload_n hF rfl 0 rfl dX10_nextToken_160 ?_
  refine j_iload_n hF rfl 1 rfl dX10_nextToken_161 ?_
  refine j_ldc (v := (10793230 : Int32)) hF bw_4_221 dX10_nextToken_162 ?_
  refine j_icmp_ne (tgt := 175) hF h (by decide) dX10_nextToken_164 (fun h => ?_) (fun h => ?_)
  · refine j_sub (lv' := [(2, .int v2), (3, .int v3)]) hF [1, 2] rfl ?_
    exact t10_nextToken_b175 hF h hC
  · refine j_iload_n hF rfl 2 rfl dX10_nextToken_167 ?_
    refine j_if_ne (tgt := 175) hF h (by decide) dX10_nextToken_168 (fun h => ?_) (fun h => ?_)
    · refine j_sub (lv' := [(2, .int v2), (3, .int v3)]) hF [1, 2] rfl ?_
      exact t10_nextToken_b175 hF h hC
    · refine j_iconst (v := (0 : Int32)) hF (by decide) dX10_nextToken_171 ?_
      refine j_goto (tgt := 208) hF (by decide) dX10_nextToken_172 ?_
      refine j_sub (lv' := []) hF [] rfl ?_
      exact t10_nextToken_b208 hF h hC
set_option maxHeartbeats 1000000 in
theorem t10_nextToken_b22 {E : En} {X : Cx} {Q : State → Prop} {N : Nat} {S : Mem} {o : (Unit × Mem)} (hF : Fx E X cX10_nextToken RX10 5 none 1) (h : f10_nextToken_b22 N S = some o) (hC : Q = RQ E X (none) o.2) : J E X Q S 22 [(0, .ref (eA E 57))] [] := by
  unfold f10_nextToken_b22 at h
  refine j_aload_n hF rfl 0 rfl dX10_nextToken_22 ?_
  refine j_aload_n hF rfl 0 rfl dX10_nextToken_23 ?_
  refine gf10_6 hF (by decide) (s_57 E _) rfl bw_4_141 dX10_nextToken_24 ?_
  refine pf10_7 hF (by decide) (s_57 E _) (s_57 E _) (Nat.le_of_ble_eq_true rfl) bw_4_142 dX10_nextToken_27 ?_
  refine j_nmM h (fun S4 h => ?_)
  refine j_aload_n hF rfl 0 rfl dX10_nextToken_30 ?_
  refine j_iconst (v := (0 : Int32)) hF (by decide) dX10_nextToken_31 ?_
  refine pf10_9 hF (by decide) (s_57 E _) (s_57 E _) (Nat.le_of_ble_eq_true rfl) bw_4_144 dX10_nextToken_32 ?_
  refine j_nmM h (fun S5 h => ?_)
  refine j_aload_n hF rfl 0 rfl dX10_nextToken_35 ?_
  obtain ⟨r6, hr6, h⟩ := bnp_some h
  refine j_callV_i (As := []) (st := []) hF rfl mv_10_here (by decide) (s_57 E _) rfl bw_4_217 rfl (by decide) (Nat.le_of_ble_eq_true rfl) dX10_nextToken_36 (c10_here hr6) ?_
  refine j_istore_n (lv' := [(1, .int r6), (0, .ref (eA E 57))]) hF rfl (by decide) rfl dX10_nextToken_39 ?_
  refine j_iload_n hF rfl 0 rfl dX10_nextToken_40 ?_
  refine j_if_ge (tgt := 52) hF h (by decide) dX10_nextToken_41 (fun h => ?_) (fun h => ?_)
  · refine j_iload_n hF rfl 0 rfl dX10_nextToken_52 ?_
    refine j_bipush (v := (97 : Int32)) hF (by decide) dX10_nextToken_53 ?_
    refine j_bipush (v := (122 : Int32)) hF (by decide) dX10_nextToken_55 ?_
    obtain ⟨r7, hr7, h⟩ := bnp_some h
    refine j_callS_i (As := [.int r6, .int (97 : Int32), .int (122 : Int32)]) (st := []) hF rfl mv_10_in bw_4_201 rfl (by decide) (Nat.le_of_ble_eq_true rfl) dX10_nextToken_57 (c10_in hr7) ?_
    refine j_if_eq (tgt := 214) hF h (by decide) dX10_nextToken_60 (fun h => ?_) (fun h => ?_)
    · refine j_iload_n hF rfl 0 rfl dX10_nextToken_214 ?_
      refine j_bipush (v := (48 : Int32)) hF (by decide) dX10_nextToken_215 ?_
      refine j_bipush (v := (57 : Int32)) hF (by decide) dX10_nextToken_217 ?_
      obtain ⟨r8, hr8, h⟩ := bnp_some h
      refine j_callS_i (As := [.int r6, .int (48 : Int32), .int (57 : Int32)]) (st := []) hF rfl mv_10_in bw_4_201 rfl (by decide) (Nat.le_of_ble_eq_true rfl) dX10_nextToken_219 (c10_in hr8) ?_
      refine j_if_eq (tgt := 328) hF h (by decide) dX10_nextToken_222 (fun h => ?_) (fun h => ?_)
      · refine j_aload_n hF rfl 1 rfl dX10_nextToken_328 ?_
        refine j_dup hF rfl dX10_nextToken_329 ?_
        refine gf10_6 hF (by decide) (s_57 E _) rfl bw_4_141 dX10_nextToken_330 ?_
        refine j_iconst (v := (1 : Int32)) hF (by decide) dX10_nextToken_333 ?_
        refine j_iadd hF dX10_nextToken_334 ?_
        refine pf10_6 hF (by decide) (s_57 E _) (s_57 E _) (Nat.le_of_ble_eq_true rfl) bw_4_141 dX10_nextToken_335 ?_
        refine j_nmM h (fun S9 h => ?_)
        refine j_aload_n hF rfl 1 rfl dX10_nextToken_338 ?_
        refine j_iload_n hF rfl 0 rfl dX10_nextToken_339 ?_
        refine j_bipush (v := (59 : Int32)) hF (by decide) dX10_nextToken_340 ?_
        refine j_icmp_ne (tgt := 349) hF h (by decide) dX10_nextToken_342 (fun h => ?_) (fun h => ?_)
        · refine j_bipush (v := (6 : Int32)) hF (by decide) dX10_nextToken_349 ?_
          refine j_sub (lv' := []) hF [] rfl ?_
          exact t10_nextToken_b351 hF h hC
        · refine j_iconst (v := (5 : Int32)) hF (by decide) dX10_nextToken_345 ?_
          refine j_goto (tgt := 351) hF (by decide) dX10_nextToken_346 ?_
          refine j_sub (lv' := []) hF [] rfl ?_
          exact t10_nextToken_b351 hF h hC
      · obtain ⟨z16, hz16, h⟩ := bnp_some h
        refine j_sub (lv' := [(0, .ref (eA E 57)), (1, .int r6)]) hF [1, 0] rfl ?_
        have hx : (fun (x : (Mem)) => J E X Q x 287 [(0, .ref (eA E 57)), (1, .int r6)] []) z16 := by
          exact t10_nextToken_b287 hF h hC
        exact lp_rule (Jh := fun (s : (Mem)) => J E X Q s 225 [(0, .ref (eA E 57)), (1, .int r6)] []) (C := fun (x : (Mem)) => J E X Q x 287 [(0, .ref (eA E 57)), (1, .int r6)] []) (fun s o h hC => t10_nextToken_L225 hF h hC) N (S5) z16 hz16 hx
    · refine j_iconst (v := (0 : Int32)) hF (by decide) dX10_nextToken_63 ?_
      refine j_istore_n (lv' := [(2, .int (0 : Int32)), (1, .int r6), (0, .ref (eA E 57))]) hF rfl (by decide) rfl dX10_nextToken_64 ?_
      refine j_iconst (v := (0 : Int32)) hF (by decide) dX10_nextToken_65 ?_
      refine j_istore_n (lv' := [(3, .int (0 : Int32)), (2, .int (0 : Int32)), (1, .int r6), (0, .ref (eA E 57))]) hF rfl (by decide) rfl dX10_nextToken_66 ?_
      obtain ⟨z24, hz24, h⟩ := bnp_some h
      refine j_sub (lv' := [(0, .ref (eA E 57)), (2, .int (0 : Int32)), (3, .int (0 : Int32))]) hF [3, 1, 0] rfl ?_
      have hx : (fun (x : (Int32 × Int32 × Mem)) => J E X Q x.2.2 160 [(0, .ref (eA E 57)), (2, .int x.1), (3, .int x.2.1)] []) z24 := by
        exact t10_nextToken_b160 hF h hC
      exact lp_rule (Jh := fun (s : (Int32 × Int32 × Mem)) => J E X Q s.2.2 67 [(0, .ref (eA E 57)), (2, .int s.1), (3, .int s.2.1)] []) (C := fun (x : (Int32 × Int32 × Mem)) => J E X Q x.2.2 160 [(0, .ref (eA E 57)), (2, .int x.1), (3, .int x.2.1)] []) (fun s o h hC => t10_nextToken_L67 hF h hC) N ((0 : Int32), (0 : Int32), S5) z24 hz24 hx
  · refine j_aload_n hF rfl 1 rfl dX10_nextToken_44 ?_
    refine j_iconst (v := (3 : Int32)) hF (by decide) dX10_nextToken_45 ?_
    refine pf10_8 hF (by decide) (s_57 E _) (s_57 E _) (Nat.le_of_ble_eq_true rfl) bw_4_143 dX10_nextToken_46 ?_
    refine j_nmM h (fun S26 h => ?_)
    refine j_goto (tgt := 354) hF (by decide) dX10_nextToken_49 ?_
    obtain rfl := ret1 h
    exact j_vret hF hC dX10_nextToken_354
set_option maxHeartbeats 1000000 in
theorem t10_nextToken {E : En} {X : Cx} {Q : State → Prop} {N : Nat} {S : Mem} {o : (Unit × Mem)} (hF : Fx E X cX10_nextToken RX10 5 none 1) (h : f10_nextToken N S = some o) (hC : Q = RQ E X (none) o.2) : J E X Q S 0 [(0, .ref (eA E 57))] [] := by
  unfold f10_nextToken at h
  obtain ⟨z3, hz3, h⟩ := bnp_some h
  have hx : (fun (x : (Mem)) => J E X Q x 22 [(0, .ref (eA E 57))] []) z3 := by
    exact t10_nextToken_b22 hF h hC
  exact lp_rule (Jh := fun (s : (Mem)) => J E X Q s 0 [(0, .ref (eA E 57))] []) (C := fun (x : (Mem)) => J E X Q x 22 [(0, .ref (eA E 57))] []) (fun s o h hC => t10_nextToken_L0 hF h hC) N (S) z3 hz3 hx
set_option maxHeartbeats 1000000 in
theorem c10_nextToken {E : En} {N : Nat} {S So : Mem} {ro : Unit} (h : f10_nextToken N S = some (ro, So)) : CT E yX10_nextToken cX10_nextToken 5 none 1 [.ref (eA E 57)] S (none) So :=
  CT_of (by decide) (Nat.le_of_ble_eq_true rfl) (fun X hF => t10_nextToken hF h rfl)
def f10_due (N : Nat) (a1 : Int32) (S : Mem) : Option (Int32 × Mem) :=
lt_ ((S 57).1 9) fun x1 =>
if ((S 57).1 10) = (-9 : Int32) then
if a1 = 0 then
lt_ (wr S 57 10 ((S 57).1 7)) fun S2 =>
some ((x1, S2))
else
bnd (f10_nextToken N S) fun r3 S4 =>
some ((x1, S4))
else
some ((x1, S))
set_option maxHeartbeats 1000000 in
theorem t10_due {E : En} {X : Cx} {Q : State → Prop} {N : Nat} {a1 : Int32} {S : Mem} {o : (Int32 × Mem)} (hF : Fx E X cX10_due RX10 3 (some .int) 2) (h : f10_due N a1 S = some o) (hC : Q = RQ E X (some (.int o.1)) o.2) : J E X Q S 0 [(0, .ref (eA E 57)), (1, .int a1)] [] := by
  unfold f10_due at h
  refine j_aload_n hF rfl 0 rfl dX10_due_0 ?_
  refine gf10_9 hF (by decide) (s_57 E _) rfl bw_4_144 dX10_due_1 ?_
  refine j_istore_n (lv' := [(2, .int ((S 57).1 9)), (0, .ref (eA E 57)), (1, .int a1)]) hF rfl (by decide) rfl dX10_due_4 ?_
  refine j_nmL h (fun x1 h => ?_)
  refine j_aload_n hF rfl 1 rfl dX10_due_5 ?_
  refine gf10_10 hF (by decide) (s_57 E _) rfl bw_4_145 dX10_due_6 ?_
  refine j_bipush (v := (-9 : Int32)) hF (by decide) dX10_due_9 ?_
  refine j_icmp_ne (tgt := 33) hF h (by decide) dX10_due_11 (fun h => ?_) (fun h => ?_)
  · refine j_iload_n hF rfl 0 rfl dX10_due_33 ?_
    obtain rfl := ret1 h
    exact j_iret hF hC dX10_due_34
  · refine j_iload_n hF rfl 2 rfl dX10_due_14 ?_
    refine j_if_eq (tgt := 25) hF h (by decide) dX10_due_15 (fun h => ?_) (fun h => ?_)
    · refine j_aload_n hF rfl 1 rfl dX10_due_25 ?_
      refine j_aload_n hF rfl 1 rfl dX10_due_26 ?_
      refine gf10_7 hF (by decide) (s_57 E _) rfl bw_4_142 dX10_due_27 ?_
      refine pf10_10 hF (by decide) (s_57 E _) (s_57 E _) (Nat.le_of_ble_eq_true rfl) bw_4_145 dX10_due_30 ?_
      refine j_nmM h (fun S2 h => ?_)
      refine j_iload_n hF rfl 0 rfl dX10_due_33 ?_
      obtain rfl := ret1 h
      exact j_iret hF hC dX10_due_34
    · refine j_aload_n hF rfl 1 rfl dX10_due_18 ?_
      obtain ⟨r3, S4, hr3, h⟩ := bnd_some h
      refine j_callV_v (As := []) (st := []) hF rfl mv_10_nextToken (by decide) (s_57 E _) rfl bw_4_213 rfl (by decide) (Nat.le_of_ble_eq_true rfl) dX10_due_19 (c10_nextToken hr3) ?_
      refine j_goto (tgt := 33) hF (by decide) dX10_due_22 ?_
      refine j_iload_n hF rfl 0 rfl dX10_due_33 ?_
      obtain rfl := ret1 h
      exact j_iret hF hC dX10_due_34
set_option maxHeartbeats 1000000 in
theorem c10_due {E : En} {N : Nat} {a1 : Int32} {S So : Mem} {ro : Int32} (h : f10_due N a1 S = some (ro, So)) : CT E yX10_due cX10_due 3 (some .int) 2 [.ref (eA E 57), .int a1] S (some (.int ro)) So :=
  CT_of (by decide) (Nat.le_of_ble_eq_true rfl) (fun X hF => t10_due hF h rfl)
def f10_number_b26 (N : Nat) (w0 : Int32) (S : Mem) : Option (Int32 × Mem) :=
bnd (f10_due N w0 S) fun r1 S2 =>
some ((r1, S2))
def f10_number_b25 (N : Nat) (S : Mem) : Option (Int32 × Mem) :=
f10_number_b26 N (0 : Int32) S
def f10_number (N : Nat) (a1 : Int32) (a2 : Int32) (S : Mem) : Option (Int32 × Mem) :=
if ((S 57).1 8) = (4 : Int32) then
bnp (f10_in N ((S 57).1 9) a1 a2 S) fun r3 =>
if r3 = 0 then
f10_number_b25 N S
else
f10_number_b26 N (1 : Int32) S
else
f10_number_b25 N S
set_option maxHeartbeats 1000000 in
theorem t10_number_b26 {E : En} {X : Cx} {Q : State → Prop} {N : Nat} {w0 : Int32} {S : Mem} {o : (Int32 × Mem)} (hF : Fx E X cX10_number RX10 3 (some .int) 3) (h : f10_number_b26 N w0 S = some o) (hC : Q = RQ E X (some (.int o.1)) o.2) : J E X Q S 26 [] [.int w0, .ref (eA E 57)] := by
  unfold f10_number_b26 at h
  obtain ⟨r1, S2, hr1, h⟩ := bnd_some h
  refine j_callV_i (As := [.int w0]) (st := []) hF rfl mv_10_due (by decide) (s_57 E _) rfl bw_4_227 rfl (by decide) (Nat.le_of_ble_eq_true rfl) dX10_number_26 (c10_due hr1) ?_
  obtain rfl := ret1 h
  exact j_iret hF hC dX10_number_29
set_option maxHeartbeats 1000000 in
theorem t10_number_b25 {E : En} {X : Cx} {Q : State → Prop} {N : Nat} {S : Mem} {o : (Int32 × Mem)} (hF : Fx E X cX10_number RX10 3 (some .int) 3) (h : f10_number_b25 N S = some o) (hC : Q = RQ E X (some (.int o.1)) o.2) : J E X Q S 25 [] [.ref (eA E 57)] := by
  unfold f10_number_b25 at h
  refine j_iconst (v := (0 : Int32)) hF (by decide) dX10_number_25 ?_
  exact t10_number_b26 hF h hC
set_option maxHeartbeats 1000000 in
theorem t10_number {E : En} {X : Cx} {Q : State → Prop} {N : Nat} {a1 : Int32} {a2 : Int32} {S : Mem} {o : (Int32 × Mem)} (hF : Fx E X cX10_number RX10 3 (some .int) 3) (h : f10_number N a1 a2 S = some o) (hC : Q = RQ E X (some (.int o.1)) o.2) : J E X Q S 0 [(0, .ref (eA E 57)), (1, .int a1), (2, .int a2)] [] := by
  unfold f10_number at h
  refine j_aload_n hF rfl 0 rfl dX10_number_0 ?_
  refine j_aload_n hF rfl 0 rfl dX10_number_1 ?_
  refine gf10_8 hF (by decide) (s_57 E _) rfl bw_4_143 dX10_number_2 ?_
  refine j_iconst (v := (4 : Int32)) hF (by decide) dX10_number_5 ?_
  refine j_icmp_ne (tgt := 25) hF h (by decide) dX10_number_6 (fun h => ?_) (fun h => ?_)
  · refine j_sub (lv' := []) hF [] rfl ?_
    exact t10_number_b25 hF h hC
  · refine j_aload_n hF rfl 0 rfl dX10_number_9 ?_
    refine gf10_9 hF (by decide) (s_57 E _) rfl bw_4_144 dX10_number_10 ?_
    refine j_iload_n hF rfl 1 rfl dX10_number_13 ?_
    refine j_iload_n hF rfl 2 rfl dX10_number_14 ?_
    obtain ⟨r3, hr3, h⟩ := bnp_some h
    refine j_callS_i (As := [.int ((S 57).1 9), .int a1, .int a2]) (st := [.ref (eA E 57)]) hF rfl mv_10_in bw_4_201 rfl (by decide) (Nat.le_of_ble_eq_true rfl) dX10_number_15 (c10_in hr3) ?_
    refine j_if_eq (tgt := 25) hF h (by decide) dX10_number_18 (fun h => ?_) (fun h => ?_)
    · refine j_sub (lv' := []) hF [] rfl ?_
      exact t10_number_b25 hF h hC
    · refine j_iconst (v := (1 : Int32)) hF (by decide) dX10_number_21 ?_
      refine j_goto (tgt := 26) hF (by decide) dX10_number_22 ?_
      refine j_sub (lv' := []) hF [] rfl ?_
      exact t10_number_b26 hF h hC
set_option maxHeartbeats 1000000 in
theorem c10_number {E : En} {N : Nat} {a1 : Int32} {a2 : Int32} {S So : Mem} {ro : Int32} (h : f10_number N a1 a2 S = some (ro, So)) : CT E yX10_number cX10_number 3 (some .int) 3 [.ref (eA E 57), .int a1, .int a2] S (some (.int ro)) So :=
  CT_of (by decide) (Nat.le_of_ble_eq_true rfl) (fun X hF => t10_number hF h rfl)
def f10_readItem_b157 (N : Nat) (w0 : Int32) (S : Mem) : Option (Unit × Mem) :=
bnd (f10_due N w0 S) fun r9 S10 =>
some (((), S10))
def f10_readItem_b143 (N : Nat) (S : Mem) : Option (Unit × Mem) :=
if ((S 57).1 8) = (5 : Int32) then
f10_readItem_b157 N (1 : Int32) S
else
f10_readItem_b157 N (0 : Int32) S
def f10_readItem_b45 (N : Nat) (v1 : Int32) (w0 : Int32) (S : Mem) : Option (Unit × Mem) :=
bnd (f10_due N w0 S) fun r3 S4 =>
if ((S4 57).1 10) = (-9 : Int32) then
lt_ (wr S4 57 11 (((S4 57).1 11) ||| ((1 : Int32) <<< (v1 &&& 31)))) fun S5 =>
if v1 = 0 then
if (1 : Int32) < 0 ∨ 2 ≤ (1 : Int32).toNatClampNeg then none else
lt_ ((S5 59).1 (1 : Int32).toNatClampNeg) fun x14 =>
bnd (f10_number N (1 : Int32) (9 : Int32) S5) fun r15 S16 =>
if ((4 : Int32) + x14) < 0 ∨ 8 ≤ ((4 : Int32) + x14).toNatClampNeg then none else
lt_ (wr S16 60 ((4 : Int32) + x14).toNatClampNeg r15) fun S17 =>
if (1 : Int32) < 0 ∨ 2 ≤ (1 : Int32).toNatClampNeg then none else
lt_ ((S17 59).1 (1 : Int32).toNatClampNeg) fun x18 =>
if (1 : Int32) < 0 ∨ 2 ≤ (1 : Int32).toNatClampNeg then none else
lt_ (wr S17 59 (1 : Int32).toNatClampNeg (x18 + (1 : Int32))) fun S19 =>
f10_readItem_b143 N S19
else
if v1 = (1 : Int32) then
bnd (f10_number N (0 : Int32) (9 : Int32) S5) fun r11 S12 =>
if (7 : Int32) < 0 ∨ 8 ≤ (7 : Int32).toNatClampNeg then none else
lt_ (wr S12 60 (7 : Int32).toNatClampNeg r11) fun S13 =>
f10_readItem_b143 N S13
else
bnd (f10_number N (2 : Int32) (20 : Int32) S5) fun r6 S7 =>
if (1 : Int32) < 0 ∨ 2 ≤ (1 : Int32).toNatClampNeg then none else
lt_ (wr S7 61 (1 : Int32).toNatClampNeg r6) fun S8 =>
f10_readItem_b143 N S8
else
some (((), S4))
def f10_readItem_b44 (N : Nat) (v1 : Int32) (S : Mem) : Option (Unit × Mem) :=
f10_readItem_b45 N v1 (0 : Int32) S
def f10_readItem_b40 (N : Nat) (v1 : Int32) (S : Mem) : Option (Unit × Mem) :=
f10_readItem_b45 N v1 (1 : Int32) S
def f10_readItem_b20 (N : Nat) (v1 : Int32) (S : Mem) : Option (Unit × Mem) :=
bnp (f10_in N v1 (1 : Int32) (2 : Int32) S) fun r2 =>
if r2 = 0 then
f10_readItem_b44 N v1 S
else
if ((((S 57).1 11) >>> (v1 &&& 31)) &&& (1 : Int32)) = 0 then
f10_readItem_b40 N v1 S
else
f10_readItem_b44 N v1 S
def f10_readItem (N : Nat) (S : Mem) : Option (Unit × Mem) :=
lt_ ((S 57).1 8) fun x1 =>
if x1 = 0 then
if (1 : Int32) < 0 ∨ 2 ≤ (1 : Int32).toNatClampNeg then none else
lt_ ((S 59).1 (1 : Int32).toNatClampNeg) fun x20 =>
if x20 < (3 : Int32) then
f10_readItem_b40 N x1 S
else
f10_readItem_b20 N x1 S
else
f10_readItem_b20 N x1 S
set_option maxHeartbeats 1000000 in
theorem t10_readItem_b157 {E : En} {X : Cx} {Q : State → Prop} {N : Nat} {w0 : Int32} {S : Mem} {o : (Unit × Mem)} (hF : Fx E X cX10_readItem RX10 2 none 4) (h : f10_readItem_b157 N w0 S = some o) (hC : Q = RQ E X (none) o.2) : J E X Q S 157 [] [.int w0, .ref (eA E 57)] := by
  unfold f10_readItem_b157 at h
  obtain ⟨r9, S10, hr9, h⟩ := bnd_some h
  refine j_callV_i (As := [.int w0]) (st := []) hF rfl mv_10_due (by decide) (s_57 E _) rfl bw_4_227 rfl (by decide) (Nat.le_of_ble_eq_true rfl) dX10_readItem_157 (c10_due hr9) ?_
  refine j_pop hF rfl dX10_readItem_160 ?_
  obtain rfl := ret1 h
  exact j_vret hF hC dX10_readItem_161
set_option maxHeartbeats 1000000 in
theorem t10_readItem_b143 {E : En} {X : Cx} {Q : State → Prop} {N : Nat} {S : Mem} {o : (Unit × Mem)} (hF : Fx E X cX10_readItem RX10 2 none 4) (h : f10_readItem_b143 N S = some o) (hC : Q = RQ E X (none) o.2) : J E X Q S 143 [(0, .ref (eA E 57))] [] := by
  unfold f10_readItem_b143 at h
  refine j_aload_n hF rfl 0 rfl dX10_readItem_143 ?_
  refine j_aload_n hF rfl 0 rfl dX10_readItem_144 ?_
  refine gf10_8 hF (by decide) (s_57 E _) rfl bw_4_143 dX10_readItem_145 ?_
  refine j_iconst (v := (5 : Int32)) hF (by decide) dX10_readItem_148 ?_
  refine j_icmp_ne (tgt := 156) hF h (by decide) dX10_readItem_149 (fun h => ?_) (fun h => ?_)
  · refine j_iconst (v := (0 : Int32)) hF (by decide) dX10_readItem_156 ?_
    refine j_sub (lv' := []) hF [] rfl ?_
    exact t10_readItem_b157 hF h hC
  · refine j_iconst (v := (1 : Int32)) hF (by decide) dX10_readItem_152 ?_
    refine j_goto (tgt := 157) hF (by decide) dX10_readItem_153 ?_
    refine j_sub (lv' := []) hF [] rfl ?_
    exact t10_readItem_b157 hF h hC
set_option maxHeartbeats 1000000 in
theorem t10_readItem_b45 {E : En} {X : Cx} {Q : State → Prop} {N : Nat} {v1 : Int32} {w0 : Int32} {S : Mem} {o : (Unit × Mem)} (hF : Fx E X cX10_readItem RX10 2 none 4) (h : f10_readItem_b45 N v1 w0 S = some o) (hC : Q = RQ E X (none) o.2) : J E X Q S 45 [(0, .ref (eA E 57)), (1, .int v1)] [.int w0, .ref (eA E 57)] := by
  unfold f10_readItem_b45 at h
  obtain ⟨r3, S4, hr3, h⟩ := bnd_some h
  refine j_callV_i (As := [.int w0]) (st := []) hF rfl mv_10_due (by decide) (s_57 E _) rfl bw_4_227 rfl (by decide) (Nat.le_of_ble_eq_true rfl) dX10_readItem_45 (c10_due hr3) ?_
  refine j_pop hF rfl dX10_readItem_48 ?_
  refine j_aload_n hF rfl 0 rfl dX10_readItem_49 ?_
  refine gf10_10 hF (by decide) (s_57 E _) rfl bw_4_145 dX10_readItem_50 ?_
  refine j_bipush (v := (-9 : Int32)) hF (by decide) dX10_readItem_53 ?_
  refine j_icmp_eq (tgt := 59) hF h (by decide) dX10_readItem_55 (fun h => ?_) (fun h => ?_)
  · refine j_aload_n hF rfl 0 rfl dX10_readItem_59 ?_
    refine j_dup hF rfl dX10_readItem_60 ?_
    refine gf10_11 hF (by decide) (s_57 E _) rfl bw_4_146 dX10_readItem_61 ?_
    refine j_iconst (v := (1 : Int32)) hF (by decide) dX10_readItem_64 ?_
    refine j_iload_n hF rfl 1 rfl dX10_readItem_65 ?_
    refine j_ishl hF dX10_readItem_66 ?_
    refine j_ior hF dX10_readItem_67 ?_
    refine pf10_11 hF (by decide) (s_57 E _) (s_57 E _) (Nat.le_of_ble_eq_true rfl) bw_4_146 dX10_readItem_68 ?_
    refine j_nmM h (fun S5 h => ?_)
    refine j_iload_n hF rfl 1 rfl dX10_readItem_71 ?_
    refine j_if_ne (tgt := 108) hF h (by decide) dX10_readItem_72 (fun h => ?_) (fun h => ?_)
    · refine j_iload_n hF rfl 1 rfl dX10_readItem_108 ?_
      refine j_iconst (v := (1 : Int32)) hF (by decide) dX10_readItem_109 ?_
      refine j_icmp_ne (tgt := 130) hF h (by decide) dX10_readItem_110 (fun h => ?_) (fun h => ?_)
      · refine j_aload_n hF rfl 0 rfl dX10_readItem_130 ?_
        refine gf10_5 hF (by decide) (s_57 E _) rfl bw_4_140 dX10_readItem_131 ?_
        refine j_iconst (v := (1 : Int32)) hF (by decide) dX10_readItem_134 ?_
        refine j_aload_n hF rfl 0 rfl dX10_readItem_135 ?_
        refine j_iconst (v := (2 : Int32)) hF (by decide) dX10_readItem_136 ?_
        refine j_bipush (v := (20 : Int32)) hF (by decide) dX10_readItem_137 ?_
        obtain ⟨r6, S7, hr6, h⟩ := bnd_some h
        refine j_callV_i (As := [.int (2 : Int32), .int (20 : Int32)]) (st := [.int (1 : Int32), .ref (eA E 61)]) hF rfl mv_10_number (by decide) (s_57 E _) rfl bw_4_231 rfl (by decide) (Nat.le_of_ble_eq_true rfl) dX10_readItem_139 (c10_number hr6) ?_
        refine j_iast hF (by decide) (s_61 E) h dX10_readItem_142 (fun h => ?_)
        refine j_nmM h (fun S8 h => ?_)
        refine j_sub (lv' := [(0, .ref (eA E 57))]) hF [0] rfl ?_
        exact t10_readItem_b143 hF h hC
      · refine j_aload_n hF rfl 0 rfl dX10_readItem_113 ?_
        refine gf10_4 hF (by decide) (s_57 E _) rfl bw_4_139 dX10_readItem_114 ?_
        refine j_bipush (v := (7 : Int32)) hF (by decide) dX10_readItem_117 ?_
        refine j_aload_n hF rfl 0 rfl dX10_readItem_119 ?_
        refine j_iconst (v := (0 : Int32)) hF (by decide) dX10_readItem_120 ?_
        refine j_bipush (v := (9 : Int32)) hF (by decide) dX10_readItem_121 ?_
        obtain ⟨r11, S12, hr11, h⟩ := bnd_some h
        refine j_callV_i (As := [.int (0 : Int32), .int (9 : Int32)]) (st := [.int (7 : Int32), .ref (eA E 60)]) hF rfl mv_10_number (by decide) (s_57 E _) rfl bw_4_231 rfl (by decide) (Nat.le_of_ble_eq_true rfl) dX10_readItem_123 (c10_number hr11) ?_
        refine j_iast hF (by decide) (s_60 E) h dX10_readItem_126 (fun h => ?_)
        refine j_nmM h (fun S13 h => ?_)
        refine j_goto (tgt := 143) hF (by decide) dX10_readItem_127 ?_
        refine j_sub (lv' := [(0, .ref (eA E 57))]) hF [0] rfl ?_
        exact t10_readItem_b143 hF h hC
    · refine j_aload_n hF rfl 0 rfl dX10_readItem_75 ?_
      refine gf10_4 hF (by decide) (s_57 E _) rfl bw_4_139 dX10_readItem_76 ?_
      refine j_iconst (v := (4 : Int32)) hF (by decide) dX10_readItem_79 ?_
      refine j_aload_n hF rfl 0 rfl dX10_readItem_80 ?_
      refine gf10_3 hF (by decide) (s_57 E _) rfl bw_4_138 dX10_readItem_81 ?_
      refine j_iconst (v := (1 : Int32)) hF (by decide) dX10_readItem_84 ?_
      refine j_iald hF (by decide) (s_59 E) h dX10_readItem_85 (fun h => ?_)
      refine j_nmT h (fun x14 h => ?_)
      refine j_iadd hF dX10_readItem_86 ?_
      refine j_aload_n hF rfl 0 rfl dX10_readItem_87 ?_
      refine j_iconst (v := (1 : Int32)) hF (by decide) dX10_readItem_88 ?_
      refine j_bipush (v := (9 : Int32)) hF (by decide) dX10_readItem_89 ?_
      obtain ⟨r15, S16, hr15, h⟩ := bnd_some h
      refine j_callV_i (As := [.int (1 : Int32), .int (9 : Int32)]) (st := [.int ((4 : Int32) + x14), .ref (eA E 60)]) hF rfl mv_10_number (by decide) (s_57 E _) rfl bw_4_231 rfl (by decide) (Nat.le_of_ble_eq_true rfl) dX10_readItem_91 (c10_number hr15) ?_
      refine j_iast hF (by decide) (s_60 E) h dX10_readItem_94 (fun h => ?_)
      refine j_nmM h (fun S17 h => ?_)
      refine j_aload_n hF rfl 0 rfl dX10_readItem_95 ?_
      refine gf10_3 hF (by decide) (s_57 E _) rfl bw_4_138 dX10_readItem_96 ?_
      refine j_iconst (v := (1 : Int32)) hF (by decide) dX10_readItem_99 ?_
      refine j_dup2 hF rfl rfl dX10_readItem_100 ?_
      refine j_iald hF (by decide) (s_59 E) h dX10_readItem_101 (fun h => ?_)
      refine j_nmT h (fun x18 h => ?_)
      refine j_iconst (v := (1 : Int32)) hF (by decide) dX10_readItem_102 ?_
      refine j_iadd hF dX10_readItem_103 ?_
      refine j_iast hF (by decide) (s_59 E) h dX10_readItem_104 (fun h => ?_)
      refine j_nmM h (fun S19 h => ?_)
      refine j_goto (tgt := 143) hF (by decide) dX10_readItem_105 ?_
      refine j_sub (lv' := [(0, .ref (eA E 57))]) hF [0] rfl ?_
      exact t10_readItem_b143 hF h hC
  · obtain rfl := ret1 h
    exact j_vret hF hC dX10_readItem_58
set_option maxHeartbeats 1000000 in
theorem t10_readItem_b44 {E : En} {X : Cx} {Q : State → Prop} {N : Nat} {v1 : Int32} {S : Mem} {o : (Unit × Mem)} (hF : Fx E X cX10_readItem RX10 2 none 4) (h : f10_readItem_b44 N v1 S = some o) (hC : Q = RQ E X (none) o.2) : J E X Q S 44 [(0, .ref (eA E 57)), (1, .int v1)] [.ref (eA E 57)] := by
  unfold f10_readItem_b44 at h
  refine j_iconst (v := (0 : Int32)) hF (by decide) dX10_readItem_44 ?_
  exact t10_readItem_b45 hF h hC
set_option maxHeartbeats 1000000 in
theorem t10_readItem_b40 {E : En} {X : Cx} {Q : State → Prop} {N : Nat} {v1 : Int32} {S : Mem} {o : (Unit × Mem)} (hF : Fx E X cX10_readItem RX10 2 none 4) (h : f10_readItem_b40 N v1 S = some o) (hC : Q = RQ E X (none) o.2) : J E X Q S 40 [(0, .ref (eA E 57)), (1, .int v1)] [.ref (eA E 57)] := by
  unfold f10_readItem_b40 at h
  refine j_iconst (v := (1 : Int32)) hF (by decide) dX10_readItem_40 ?_
  refine j_goto (tgt := 45) hF (by decide) dX10_readItem_41 ?_
  exact t10_readItem_b45 hF h hC
set_option maxHeartbeats 1000000 in
theorem t10_readItem_b20 {E : En} {X : Cx} {Q : State → Prop} {N : Nat} {v1 : Int32} {S : Mem} {o : (Unit × Mem)} (hF : Fx E X cX10_readItem RX10 2 none 4) (h : f10_readItem_b20 N v1 S = some o) (hC : Q = RQ E X (none) o.2) : J E X Q S 20 [(0, .ref (eA E 57)), (1, .int v1)] [.ref (eA E 57)] := by
  unfold f10_readItem_b20 at h
  refine j_iload_n hF rfl 1 rfl dX10_readItem_20 ?_
  refine j_iconst (v := (1 : Int32)) hF (by decide) dX10_readItem_21 ?_
  refine j_iconst (v := (2 : Int32)) hF (by decide) dX10_readItem_22 ?_
  obtain ⟨r2, hr2, h⟩ := bnp_some h
  refine j_callS_i (As := [.int v1, .int (1 : Int32), .int (2 : Int32)]) (st := [.ref (eA E 57)]) hF rfl mv_10_in bw_4_201 rfl (by decide) (Nat.le_of_ble_eq_true rfl) dX10_readItem_23 (c10_in hr2) ?_
  refine j_if_eq (tgt := 44) hF h (by decide) dX10_readItem_26 (fun h => ?_) (fun h => ?_)
  · exact t10_readItem_b44 hF h hC
  · refine j_aload_n hF rfl 0 rfl dX10_readItem_29 ?_
    refine gf10_11 hF (by decide) (s_57 E _) rfl bw_4_146 dX10_readItem_30 ?_
    refine j_iload_n hF rfl 1 rfl dX10_readItem_33 ?_
    refine j_ishr hF dX10_readItem_34 ?_
    refine j_iconst (v := (1 : Int32)) hF (by decide) dX10_readItem_35 ?_
    refine j_iand hF dX10_readItem_36 ?_
    refine j_if_ne (tgt := 44) hF h (by decide) dX10_readItem_37 (fun h => ?_) (fun h => ?_)
    · exact t10_readItem_b44 hF h hC
    · exact t10_readItem_b40 hF h hC
set_option maxHeartbeats 1000000 in
theorem t10_readItem {E : En} {X : Cx} {Q : State → Prop} {N : Nat} {S : Mem} {o : (Unit × Mem)} (hF : Fx E X cX10_readItem RX10 2 none 4) (h : f10_readItem N S = some o) (hC : Q = RQ E X (none) o.2) : J E X Q S 0 [(0, .ref (eA E 57))] [] := by
  unfold f10_readItem at h
  refine j_aload_n hF rfl 0 rfl dX10_readItem_0 ?_
  refine gf10_8 hF (by decide) (s_57 E _) rfl bw_4_143 dX10_readItem_1 ?_
  refine j_istore_n (lv' := [(1, .int ((S 57).1 8)), (0, .ref (eA E 57))]) hF rfl (by decide) rfl dX10_readItem_4 ?_
  refine j_nmL h (fun x1 h => ?_)
  refine j_aload_n hF rfl 1 rfl dX10_readItem_5 ?_
  refine j_iload_n hF rfl 0 rfl dX10_readItem_6 ?_
  refine j_if_ne (tgt := 20) hF h (by decide) dX10_readItem_7 (fun h => ?_) (fun h => ?_)
  · refine j_sub (lv' := [(0, .ref (eA E 57)), (1, .int x1)]) hF [1, 0] rfl ?_
    exact t10_readItem_b20 hF h hC
  · refine j_aload_n hF rfl 1 rfl dX10_readItem_10 ?_
    refine gf10_3 hF (by decide) (s_57 E _) rfl bw_4_138 dX10_readItem_11 ?_
    refine j_iconst (v := (1 : Int32)) hF (by decide) dX10_readItem_14 ?_
    refine j_iald hF (by decide) (s_59 E) h dX10_readItem_15 (fun h => ?_)
    refine j_nmT h (fun x20 h => ?_)
    refine j_iconst (v := (3 : Int32)) hF (by decide) dX10_readItem_16 ?_
    refine j_icmp_lt (tgt := 40) hF h (by decide) dX10_readItem_17 (fun h => ?_) (fun h => ?_)
    · refine j_sub (lv' := [(0, .ref (eA E 57)), (1, .int x1)]) hF [1, 0] rfl ?_
      exact t10_readItem_b40 hF h hC
    · refine j_sub (lv' := [(0, .ref (eA E 57)), (1, .int x1)]) hF [1, 0] rfl ?_
      exact t10_readItem_b20 hF h hC
set_option maxHeartbeats 1000000 in
theorem c10_readItem {E : En} {N : Nat} {S So : Mem} {ro : Unit} (h : f10_readItem N S = some (ro, So)) : CT E yX10_readItem cX10_readItem 2 none 4 [.ref (eA E 57)] S (none) So :=
  CT_of (by decide) (Nat.le_of_ble_eq_true rfl) (fun X hF => t10_readItem hF h rfl)
