def f10_next_b59 (N : Nat) (v1 : Int32) (v2 : Int32) (v3 : Int32) (v4 : Int32) (S : Mem) : Option ((Int32 × Int32 × Int32 × Mem) ⊕ (Int32 × Int32 × Mem)) :=
lt_ (v4 + (1 : Int32)) fun x5 =>
some (.inl (v2, v3, x5, S))
def f10_next_b53 (N : Nat) (v1 : Int32) (v4 : Int32) (v5 : Int32) (S : Mem) : Option ((Int32 × Int32 × Int32 × Mem) ⊕ (Int32 × Int32 × Mem)) :=
f10_next_b59 N v1 v4 v5 v4 S
def f10_next_L20 (N : Nat) (v1 : Int32) (v2 : Int32) (v3 : Int32) (v4 : Int32) (S : Mem) : Option ((Int32 × Int32 × Int32 × Mem) ⊕ (Int32 × Int32 × Mem)) :=
if (0 : Int32) < 0 ∨ 2 ≤ (0 : Int32).toNatClampNeg then none else
lt_ ((S 59).1 (0 : Int32).toNatClampNeg) fun x2 =>
if ((1 : Int32) <<< (x2 &&& 31)) ≤ v4 then
some (.inr (v2, v3, S))
else
bnd (f10_worstOf N v4 S) fun r3 S4 =>
if v2 = (-9 : Int32) then
f10_next_b53 N v1 v4 r3 S4
else
if v3 ≤ r3 then
f10_next_b59 N v1 v2 v3 v4 S4
else
f10_next_b53 N v1 v4 r3 S4
def f10_next_b65 (N : Nat) (v1 : Int32) (v2 : Int32) (v3 : Int32) (S : Mem) : Option (Int32 × Mem) :=
if v1 = 0 then
some ((v2, S))
else
some ((v3, S))
def f10_next (N : Nat) (a1 : Int32) (S : Mem) : Option (Int32 × Mem) :=
bnp (f10_in N a1 (0 : Int32) (1 : Int32) S) fun r1 =>
if r1 = 0 then
some (((-1 : Int32), S))
else
bnp (lp N (fun s => f10_next_L20 N a1 s.1 s.2.1 s.2.2.1 s.2.2.2) ((-9 : Int32), (-9 : Int32), (1 : Int32), S)) fun z6 =>
f10_next_b65 N a1 z6.1 z6.2.1 z6.2.2
set_option maxHeartbeats 1000000 in
theorem t10_next_b59 {E : En} {X : Cx} {Q : State → Prop} {N : Nat} {v1 : Int32} {v2 : Int32} {v3 : Int32} {v4 : Int32} {S : Mem} {o : ((Int32 × Int32 × Int32 × Mem) ⊕ (Int32 × Int32 × Mem))} (hF : Fx E X cX10_next RX10 6 (some .int) 5) (h : f10_next_b59 N v1 v2 v3 v4 S = some o) (hC : Sum.elim (fun (s : (Int32 × Int32 × Int32 × Mem)) => J E X Q s.2.2.2 20 [(0, .ref (eA E 57)), (1, .int v1), (2, .int s.1), (3, .int s.2.1), (4, .int s.2.2.1)] []) (fun (x : (Int32 × Int32 × Mem)) => J E X Q x.2.2 65 [(1, .int v1), (2, .int x.1), (3, .int x.2.1)] []) o) : J E X Q S 59 [(0, .ref (eA E 57)), (1, .int v1), (2, .int v2), (3, .int v3), (4, .int v4)] [] := by
  unfold f10_next_b59 at h
  refine j_iinc (v := (v4 + (1 : Int32))) (lv' := [(4, .int (v4 + (1 : Int32))), (0, .ref (eA E 57)), (1, .int v1), (2, .int v2), (3, .int v3)]) (q := 4) hF rfl (congrArg (fun z => v4 + z) (by decide)) (by decide) rfl dX10_next_59 ?_
  refine j_nmL h (fun x5 h => ?_)
  refine j_goto (tgt := 20) hF (by decide) dX10_next_62 ?_
  obtain rfl := ret1 h
  refine j_sub (lv' := [(0, .ref (eA E 57)), (1, .int v1), (2, .int v2), (3, .int v3), (4, .int x5)]) hF [1, 2, 3, 4, 0] rfl ?_
  exact hC
set_option maxHeartbeats 1000000 in
theorem t10_next_b53 {E : En} {X : Cx} {Q : State → Prop} {N : Nat} {v1 : Int32} {v4 : Int32} {v5 : Int32} {S : Mem} {o : ((Int32 × Int32 × Int32 × Mem) ⊕ (Int32 × Int32 × Mem))} (hF : Fx E X cX10_next RX10 6 (some .int) 5) (h : f10_next_b53 N v1 v4 v5 S = some o) (hC : Sum.elim (fun (s : (Int32 × Int32 × Int32 × Mem)) => J E X Q s.2.2.2 20 [(0, .ref (eA E 57)), (1, .int v1), (2, .int s.1), (3, .int s.2.1), (4, .int s.2.2.1)] []) (fun (x : (Int32 × Int32 × Mem)) => J E X Q x.2.2 65 [(1, .int v1), (2, .int x.1), (3, .int x.2.1)] []) o) : J E X Q S 53 [(0, .ref (eA E 57)), (1, .int v1), (4, .int v4), (5, .int v5)] [] := by
  unfold f10_next_b53 at h
  refine j_iload hF 2 rfl dX10_next_53 ?_
  refine j_istore_n (lv' := [(2, .int v4), (0, .ref (eA E 57)), (1, .int v1), (4, .int v4), (5, .int v5)]) hF rfl (by decide) rfl dX10_next_55 ?_
  refine j_iload hF 4 rfl dX10_next_56 ?_
  refine j_istore_n (lv' := [(3, .int v5), (2, .int v4), (0, .ref (eA E 57)), (1, .int v1), (4, .int v4), (5, .int v5)]) hF rfl (by decide) rfl dX10_next_58 ?_
  refine j_sub (lv' := [(0, .ref (eA E 57)), (1, .int v1), (2, .int v4), (3, .int v5), (4, .int v4)]) hF [2, 3, 1, 0, 4] rfl ?_
  exact t10_next_b59 hF h hC
set_option maxHeartbeats 1000000 in
theorem t10_next_L20 {E : En} {X : Cx} {Q : State → Prop} {N : Nat} {v1 : Int32} {v2 : Int32} {v3 : Int32} {v4 : Int32} {S : Mem} {o : ((Int32 × Int32 × Int32 × Mem) ⊕ (Int32 × Int32 × Mem))} (hF : Fx E X cX10_next RX10 6 (some .int) 5) (h : f10_next_L20 N v1 v2 v3 v4 S = some o) (hC : Sum.elim (fun (s : (Int32 × Int32 × Int32 × Mem)) => J E X Q s.2.2.2 20 [(0, .ref (eA E 57)), (1, .int v1), (2, .int s.1), (3, .int s.2.1), (4, .int s.2.2.1)] []) (fun (x : (Int32 × Int32 × Mem)) => J E X Q x.2.2 65 [(1, .int v1), (2, .int x.1), (3, .int x.2.1)] []) o) : J E X Q S 20 [(0, .ref (eA E 57)), (1, .int v1), (2, .int v2), (3, .int v3), (4, .int v4)] [] := by
  unfold f10_next_L20 at h
  refine j_iload hF 4 rfl dX10_next_20 ?_
  refine j_iconst (v := (1 : Int32)) hF (by decide) dX10_next_22 ?_
  refine j_aload_n hF rfl 0 rfl dX10_next_23 ?_
  refine gf10_3 hF (by decide) (s_57 E _) rfl bw_4_138 dX10_next_24 ?_
  refine j_iconst (v := (0 : Int32)) hF (by decide) dX10_next_27 ?_
  refine j_iald hF (by decide) (s_59 E) h dX10_next_28 (fun h => ?_)
  refine j_nmT h (fun x2 h => ?_)
  refine j_ishl hF dX10_next_29 ?_
  refine j_icmp_ge (tgt := 65) hF h (by decide) dX10_next_30 (fun h => ?_) (fun h => ?_)
  · obtain rfl := ret1 h
    refine j_sub (lv' := [(1, .int v1), (2, .int v2), (3, .int v3)]) hF [1, 2, 3] rfl ?_
    exact hC
  · refine j_aload_n hF rfl 0 rfl dX10_next_33 ?_
    refine j_iload hF 4 rfl dX10_next_34 ?_
    obtain ⟨r3, S4, hr3, h⟩ := bnd_some h
    refine j_callV_i (As := [.int v4]) (st := []) hF rfl mv_10_worstOf (by decide) (s_57 E _) rfl bw_5_86 rfl (by decide) (Nat.le_of_ble_eq_true rfl) dX10_next_36 (c10_worstOf hr3) ?_
    refine j_istore (lv' := [(5, .int r3), (0, .ref (eA E 57)), (1, .int v1), (2, .int v2), (3, .int v3), (4, .int v4)]) hF (by decide) rfl dX10_next_39 ?_
    refine j_iload_n hF rfl 3 rfl dX10_next_41 ?_
    refine j_bipush (v := (-9 : Int32)) hF (by decide) dX10_next_42 ?_
    refine j_icmp_eq (tgt := 53) hF h (by decide) dX10_next_44 (fun h => ?_) (fun h => ?_)
    · refine j_sub (lv' := [(0, .ref (eA E 57)), (1, .int v1), (4, .int v4), (5, .int r3)]) hF [1, 2, 5, 0] rfl ?_
      exact t10_next_b53 hF h hC
    · refine j_iload hF 0 rfl dX10_next_47 ?_
      refine j_iload_n hF rfl 4 rfl dX10_next_49 ?_
      refine j_icmp_ge (tgt := 59) hF h (by decide) dX10_next_50 (fun h => ?_) (fun h => ?_)
      · refine j_sub (lv' := [(0, .ref (eA E 57)), (1, .int v1), (2, .int v2), (3, .int v3), (4, .int v4)]) hF [1, 2, 3, 4, 5] rfl ?_
        exact t10_next_b59 hF h hC
      · refine j_sub (lv' := [(0, .ref (eA E 57)), (1, .int v1), (4, .int v4), (5, .int r3)]) hF [1, 2, 5, 0] rfl ?_
        exact t10_next_b53 hF h hC
set_option maxHeartbeats 1000000 in
theorem t10_next_b65 {E : En} {X : Cx} {Q : State → Prop} {N : Nat} {v1 : Int32} {v2 : Int32} {v3 : Int32} {S : Mem} {o : (Int32 × Mem)} (hF : Fx E X cX10_next RX10 6 (some .int) 5) (h : f10_next_b65 N v1 v2 v3 S = some o) (hC : Q = RQ E X (some (.int o.1)) o.2) : J E X Q S 65 [(1, .int v1), (2, .int v2), (3, .int v3)] [] := by
  unfold f10_next_b65 at h
  refine j_iload_n hF rfl 0 rfl dX10_next_65 ?_
  refine j_if_ne (tgt := 73) hF h (by decide) dX10_next_66 (fun h => ?_) (fun h => ?_)
  · refine j_iload_n hF rfl 2 rfl dX10_next_73 ?_
    obtain rfl := ret1 h
    exact j_iret hF hC dX10_next_74
  · refine j_iload_n hF rfl 1 rfl dX10_next_69 ?_
    refine j_goto (tgt := 74) hF (by decide) dX10_next_70 ?_
    obtain rfl := ret1 h
    exact j_iret hF hC dX10_next_74
set_option maxHeartbeats 1000000 in
theorem t10_next {E : En} {X : Cx} {Q : State → Prop} {N : Nat} {a1 : Int32} {S : Mem} {o : (Int32 × Mem)} (hF : Fx E X cX10_next RX10 6 (some .int) 5) (h : f10_next N a1 S = some o) (hC : Q = RQ E X (some (.int o.1)) o.2) : J E X Q S 0 [(0, .ref (eA E 57)), (1, .int a1)] [] := by
  unfold f10_next at h
  refine j_iload_n hF rfl 1 rfl dX10_next_0 ?_
  refine j_iconst (v := (0 : Int32)) hF (by decide) dX10_next_1 ?_
  refine j_iconst (v := (1 : Int32)) hF (by decide) dX10_next_2 ?_
  obtain ⟨r1, hr1, h⟩ := bnp_some h
  refine j_callS_i (As := [.int a1, .int (0 : Int32), .int (1 : Int32)]) (st := []) hF rfl mv_10_in bw_4_201 rfl (by decide) (Nat.le_of_ble_eq_true rfl) dX10_next_3 (c10_in hr1) ?_
  refine j_if_ne (tgt := 11) hF h (by decide) dX10_next_6 (fun h => ?_) (fun h => ?_)
  · refine j_bipush (v := (-9 : Int32)) hF (by decide) dX10_next_11 ?_
    refine j_istore_n (lv' := [(2, .int (-9 : Int32)), (0, .ref (eA E 57)), (1, .int a1)]) hF rfl (by decide) rfl dX10_next_13 ?_
    refine j_bipush (v := (-9 : Int32)) hF (by decide) dX10_next_14 ?_
    refine j_istore_n (lv' := [(3, .int (-9 : Int32)), (2, .int (-9 : Int32)), (0, .ref (eA E 57)), (1, .int a1)]) hF rfl (by decide) rfl dX10_next_16 ?_
    refine j_iconst (v := (1 : Int32)) hF (by decide) dX10_next_17 ?_
    refine j_istore (lv' := [(4, .int (1 : Int32)), (3, .int (-9 : Int32)), (2, .int (-9 : Int32)), (0, .ref (eA E 57)), (1, .int a1)]) hF (by decide) rfl dX10_next_18 ?_
    obtain ⟨z6, hz6, h⟩ := bnp_some h
    refine j_sub (lv' := [(0, .ref (eA E 57)), (1, .int a1), (2, .int (-9 : Int32)), (3, .int (-9 : Int32)), (4, .int (1 : Int32))]) hF [3, 4, 2, 1, 0] rfl ?_
    have hx : (fun (x : (Int32 × Int32 × Mem)) => J E X Q x.2.2 65 [(1, .int a1), (2, .int x.1), (3, .int x.2.1)] []) z6 := by
      exact t10_next_b65 hF h hC
    exact lp_rule (Jh := fun (s : (Int32 × Int32 × Int32 × Mem)) => J E X Q s.2.2.2 20 [(0, .ref (eA E 57)), (1, .int a1), (2, .int s.1), (3, .int s.2.1), (4, .int s.2.2.1)] []) (C := fun (x : (Int32 × Int32 × Mem)) => J E X Q x.2.2 65 [(1, .int a1), (2, .int x.1), (3, .int x.2.1)] []) (fun s o h hC => t10_next_L20 hF h hC) N ((-9 : Int32), (-9 : Int32), (1 : Int32), S) z6 hz6 hx
  · refine j_iconst (v := (-1 : Int32)) hF (by decide) dX10_next_9 ?_
    obtain rfl := ret1 h
    exact j_iret hF hC dX10_next_10
set_option maxHeartbeats 1000000 in
theorem c10_next {E : En} {N : Nat} {a1 : Int32} {S So : Mem} {ro : Int32} (h : f10_next N a1 S = some (ro, So)) : CT E yX10_next cX10_next 6 (some .int) 5 [.ref (eA E 57), .int a1] S (some (.int ro)) So :=
  CT_of (by decide) (Nat.le_of_ble_eq_true rfl) (fun X hF => t10_next hF h rfl)
def f10_isKnown_b33 (N : Nat) (v1 : Int32) (v3 : Int32) (w0 : Int32) (w1 : Int32) (S : Mem) : Option ((Int32 × Int32 × Mem) ⊕ (Int32 × Mem)) :=
lt_ (w1 ||| w0) fun x4 =>
lt_ (v3 + (1 : Int32)) fun x5 =>
some (.inl (x4, x5, S))
def f10_isKnown_L4 (N : Nat) (v1 : Int32) (v2 : Int32) (v3 : Int32) (S : Mem) : Option ((Int32 × Int32 × Mem) ⊕ (Int32 × Mem)) :=
bnp (f10_worlds N S) fun r1 =>
if r1 ≤ v3 then
some (.inr (v2, S))
else
bnd (f10_canBe N v3 S) fun r2 S3 =>
if r2 = 0 then
f10_isKnown_b33 N v1 v3 (0 : Int32) v2 S3
else
if v1 < 0 ∨ 4 ≤ v1.toNatClampNeg then none else
lt_ ((S3 65).1 v1.toNatClampNeg) fun x6 =>
f10_isKnown_b33 N v1 v3 ((1 : Int32) <<< (x6 &&& 31)) v2 S3
def f10_isKnown_b41 (N : Nat) (v2 : Int32) (S : Mem) : Option (Int32 × Mem) :=
if (v2 &&& (v2 - (1 : Int32))) = 0 then
some (((1 : Int32), S))
else
some (((0 : Int32), S))
def f10_isKnown (N : Nat) (a1 : Int32) (S : Mem) : Option (Int32 × Mem) :=
bnp (lp N (fun s => f10_isKnown_L4 N a1 s.1 s.2.1 s.2.2) ((0 : Int32), (0 : Int32), S)) fun z7 =>
f10_isKnown_b41 N z7.1 z7.2
set_option maxHeartbeats 1000000 in
theorem t10_isKnown_b33 {E : En} {X : Cx} {Q : State → Prop} {N : Nat} {v1 : Int32} {v3 : Int32} {w0 : Int32} {w1 : Int32} {S : Mem} {o : ((Int32 × Int32 × Mem) ⊕ (Int32 × Mem))} (hF : Fx E X cX10_isKnown RX10 4 (some .boolean) 4) (h : f10_isKnown_b33 N v1 v3 w0 w1 S = some o) (hC : Sum.elim (fun (s : (Int32 × Int32 × Mem)) => J E X Q s.2.2 4 [(0, .ref (eA E 57)), (1, .int v1), (2, .int s.1), (3, .int s.2.1)] []) (fun (x : (Int32 × Mem)) => J E X Q x.2 41 [(2, .int x.1)] []) o) : J E X Q S 33 [(0, .ref (eA E 57)), (1, .int v1), (3, .int v3)] [.int w0, .int w1] := by
  unfold f10_isKnown_b33 at h
  refine j_ior hF dX10_isKnown_33 ?_
  refine j_istore_n (lv' := [(2, .int (w1 ||| w0)), (0, .ref (eA E 57)), (1, .int v1), (3, .int v3)]) hF rfl (by decide) rfl dX10_isKnown_34 ?_
  refine j_nmL h (fun x4 h => ?_)
  refine j_iinc (v := (v3 + (1 : Int32))) (lv' := [(3, .int (v3 + (1 : Int32))), (2, .int x4), (0, .ref (eA E 57)), (1, .int v1)]) (q := 3) hF rfl (congrArg (fun z => v3 + z) (by decide)) (by decide) rfl dX10_isKnown_35 ?_
  refine j_nmL h (fun x5 h => ?_)
  refine j_goto (tgt := 4) hF (by decide) dX10_isKnown_38 ?_
  obtain rfl := ret1 h
  refine j_sub (lv' := [(0, .ref (eA E 57)), (1, .int v1), (2, .int x4), (3, .int x5)]) hF [2, 3, 1, 0] rfl ?_
  exact hC
set_option maxHeartbeats 1000000 in
theorem t10_isKnown_L4 {E : En} {X : Cx} {Q : State → Prop} {N : Nat} {v1 : Int32} {v2 : Int32} {v3 : Int32} {S : Mem} {o : ((Int32 × Int32 × Mem) ⊕ (Int32 × Mem))} (hF : Fx E X cX10_isKnown RX10 4 (some .boolean) 4) (h : f10_isKnown_L4 N v1 v2 v3 S = some o) (hC : Sum.elim (fun (s : (Int32 × Int32 × Mem)) => J E X Q s.2.2 4 [(0, .ref (eA E 57)), (1, .int v1), (2, .int s.1), (3, .int s.2.1)] []) (fun (x : (Int32 × Mem)) => J E X Q x.2 41 [(2, .int x.1)] []) o) : J E X Q S 4 [(0, .ref (eA E 57)), (1, .int v1), (2, .int v2), (3, .int v3)] [] := by
  unfold f10_isKnown_L4 at h
  refine j_iload_n hF rfl 3 rfl dX10_isKnown_4 ?_
  refine j_aload_n hF rfl 0 rfl dX10_isKnown_5 ?_
  obtain ⟨r1, hr1, h⟩ := bnp_some h
  refine j_callV_i (As := []) (st := [.int v3]) hF rfl mv_10_worlds (by decide) (s_57 E _) rfl bw_5_47 rfl (by decide) (Nat.le_of_ble_eq_true rfl) dX10_isKnown_6 (c10_worlds hr1) ?_
  refine j_icmp_ge (tgt := 41) hF h (by decide) dX10_isKnown_9 (fun h => ?_) (fun h => ?_)
  · obtain rfl := ret1 h
    refine j_sub (lv' := [(2, .int v2)]) hF [2] rfl ?_
    exact hC
  · refine j_iload_n hF rfl 2 rfl dX10_isKnown_12 ?_
    refine j_aload_n hF rfl 0 rfl dX10_isKnown_13 ?_
    refine j_iload_n hF rfl 3 rfl dX10_isKnown_14 ?_
    obtain ⟨r2, S3, hr2, h⟩ := bnd_some h
    refine j_callV_i (As := [.int v3]) (st := [.int v2]) hF rfl mv_10_canBe (by decide) (s_57 E _) rfl bw_5_51 rfl (by decide) (Nat.le_of_ble_eq_true rfl) dX10_isKnown_15 (c10_canBe hr2) ?_
    refine j_if_eq (tgt := 32) hF h (by decide) dX10_isKnown_18 (fun h => ?_) (fun h => ?_)
    · refine j_iconst (v := (0 : Int32)) hF (by decide) dX10_isKnown_32 ?_
      refine j_sub (lv' := [(0, .ref (eA E 57)), (1, .int v1), (3, .int v3)]) hF [0, 1, 3] rfl ?_
      exact t10_isKnown_b33 hF h hC
    · refine j_iconst (v := (1 : Int32)) hF (by decide) dX10_isKnown_21 ?_
      refine j_aload_n hF rfl 0 rfl dX10_isKnown_22 ?_
      refine gf10_15 hF (by decide) (s_57 E _) rfl bw_4_150 dX10_isKnown_23 ?_
      refine j_iload_n hF rfl 1 rfl dX10_isKnown_26 ?_
      refine j_iald hF (by decide) (s_65 E) h dX10_isKnown_27 (fun h => ?_)
      refine j_nmT h (fun x6 h => ?_)
      refine j_ishl hF dX10_isKnown_28 ?_
      refine j_goto (tgt := 33) hF (by decide) dX10_isKnown_29 ?_
      refine j_sub (lv' := [(0, .ref (eA E 57)), (1, .int v1), (3, .int v3)]) hF [0, 1, 3] rfl ?_
      exact t10_isKnown_b33 hF h hC
set_option maxHeartbeats 1000000 in
theorem t10_isKnown_b41 {E : En} {X : Cx} {Q : State → Prop} {N : Nat} {v2 : Int32} {S : Mem} {o : (Int32 × Mem)} (hF : Fx E X cX10_isKnown RX10 4 (some .boolean) 4) (h : f10_isKnown_b41 N v2 S = some o) (hC : Q = RQ E X (some (.int o.1)) o.2) : J E X Q S 41 [(2, .int v2)] [] := by
  unfold f10_isKnown_b41 at h
  refine j_iload_n hF rfl 0 rfl dX10_isKnown_41 ?_
  refine j_iload_n hF rfl 0 rfl dX10_isKnown_42 ?_
  refine j_iconst (v := (1 : Int32)) hF (by decide) dX10_isKnown_43 ?_
  refine j_isub hF dX10_isKnown_44 ?_
  refine j_iand hF dX10_isKnown_45 ?_
  refine j_if_ne (tgt := 53) hF h (by decide) dX10_isKnown_46 (fun h => ?_) (fun h => ?_)
  · refine j_iconst (v := (0 : Int32)) hF (by decide) dX10_isKnown_53 ?_
    obtain rfl := ret1 h
    exact j_ret_boolean hF (by decide) hC dX10_isKnown_54
  · refine j_iconst (v := (1 : Int32)) hF (by decide) dX10_isKnown_49 ?_
    refine j_goto (tgt := 54) hF (by decide) dX10_isKnown_50 ?_
    obtain rfl := ret1 h
    exact j_ret_boolean hF (by decide) hC dX10_isKnown_54
set_option maxHeartbeats 1000000 in
theorem t10_isKnown {E : En} {X : Cx} {Q : State → Prop} {N : Nat} {a1 : Int32} {S : Mem} {o : (Int32 × Mem)} (hF : Fx E X cX10_isKnown RX10 4 (some .boolean) 4) (h : f10_isKnown N a1 S = some o) (hC : Q = RQ E X (some (.int o.1)) o.2) : J E X Q S 0 [(0, .ref (eA E 57)), (1, .int a1)] [] := by
  unfold f10_isKnown at h
  refine j_iconst (v := (0 : Int32)) hF (by decide) dX10_isKnown_0 ?_
  refine j_istore_n (lv' := [(2, .int (0 : Int32)), (0, .ref (eA E 57)), (1, .int a1)]) hF rfl (by decide) rfl dX10_isKnown_1 ?_
  refine j_iconst (v := (0 : Int32)) hF (by decide) dX10_isKnown_2 ?_
  refine j_istore_n (lv' := [(3, .int (0 : Int32)), (2, .int (0 : Int32)), (0, .ref (eA E 57)), (1, .int a1)]) hF rfl (by decide) rfl dX10_isKnown_3 ?_
  obtain ⟨z7, hz7, h⟩ := bnp_some h
  refine j_sub (lv' := [(0, .ref (eA E 57)), (1, .int a1), (2, .int (0 : Int32)), (3, .int (0 : Int32))]) hF [2, 3, 1, 0] rfl ?_
  have hx : (fun (x : (Int32 × Mem)) => J E X Q x.2 41 [(2, .int x.1)] []) z7 := by
    exact t10_isKnown_b41 hF h hC
  exact lp_rule (Jh := fun (s : (Int32 × Int32 × Mem)) => J E X Q s.2.2 4 [(0, .ref (eA E 57)), (1, .int a1), (2, .int s.1), (3, .int s.2.1)] []) (C := fun (x : (Int32 × Mem)) => J E X Q x.2 41 [(2, .int x.1)] []) (fun s o h hC => t10_isKnown_L4 hF h hC) N ((0 : Int32), (0 : Int32), S) z7 hz7 hx
set_option maxHeartbeats 1000000 in
theorem c10_isKnown {E : En} {N : Nat} {a1 : Int32} {S So : Mem} {ro : Int32} (h : f10_isKnown N a1 S = some (ro, So)) : CT E yX10_isKnown cX10_isKnown 4 (some .boolean) 4 [.ref (eA E 57), .int a1] S (some (.int ro)) So :=
  CT_of (by decide) (Nat.le_of_ble_eq_true rfl) (fun X hF => t10_isKnown hF h rfl)
def f10_part_L3 (N : Nat) (v1 : Int32) (v2 : Int32) (v3 : Int32) (v4 : Int32) (S : Mem) : Option ((Int32 × Mem) ⊕ (Mem)) :=
if (400 : Int32) ≤ v4 then
some (.inr (S))
else
if v4 < 0 ∨ 400 ≤ v4.toNatClampNeg then none else
lt_ (wr S 67 v4.toNatClampNeg (0 : Int32)) fun S1 =>
lt_ (v4 + (1 : Int32)) fun x2 =>
some (.inl (x2, S1))
def f10_part_L28 (N : Nat) (v1 : Int32) (v2 : Int32) (v3 : Int32) (v4 : Int32) (S : Mem) : Option ((Int32 × Mem) ⊕ (Mem)) :=
if (20 : Int32) ≤ v4 then
some (.inr (S))
else
if v4 < 0 ∨ 20 ≤ v4.toNatClampNeg then none else
lt_ (wr S 68 v4.toNatClampNeg (vp_nar .boolean (0 : Int32))) fun S4 =>
lt_ (v4 + (1 : Int32)) fun x5 =>
some (.inl (x5, S4))
def f10_part_b153 (N : Nat) (v1 : Int32) (v2 : Int32) (v3 : Int32) (v4 : Int32) (S : Mem) : Option ((Int32 × Mem) ⊕ (Mem)) :=
lt_ (v4 + (1 : Int32)) fun x10 =>
some (.inl (x10, S))
def f10_part_b143 (N : Nat) (v1 : Int32) (v2 : Int32) (v3 : Int32) (v4 : Int32) (v6 : Int32) (v7 : Int32) (w0 : Int32) (w1 : Int32) (S : Mem) : Option ((Int32 × Mem) ⊕ (Mem)) :=
if w1 < 0 ∨ 20 ≤ w1.toNatClampNeg then none else
lt_ (wr S 68 w1.toNatClampNeg (vp_nar .boolean w0)) fun S17 =>
if v6 < 0 ∨ 400 ≤ v6.toNatClampNeg then none else
lt_ (wr S17 67 v6.toNatClampNeg v7) fun S18 =>
f10_part_b153 N v1 v2 v3 v4 S18
def f10_part_b138 (N : Nat) (v1 : Int32) (v2 : Int32) (v3 : Int32) (v4 : Int32) (v6 : Int32) (v7 : Int32) (w0 : Int32) (S : Mem) : Option ((Int32 × Mem) ⊕ (Mem)) :=
f10_part_b143 N v1 v2 v3 v4 v6 v7 (1 : Int32) w0 S
def f10_part_b142 (N : Nat) (v1 : Int32) (v2 : Int32) (v3 : Int32) (v4 : Int32) (v6 : Int32) (v7 : Int32) (w0 : Int32) (S : Mem) : Option ((Int32 × Mem) ⊕ (Mem)) :=
f10_part_b143 N v1 v2 v3 v4 v6 v7 (0 : Int32) w0 S
def f10_part_L52 (N : Nat) (v1 : Int32) (v2 : Int32) (v3 : Int32) (v4 : Int32) (S : Mem) : Option ((Int32 × Mem) ⊕ (Mem)) :=
bnp (f10_worlds N S) fun r7 =>
if r7 ≤ v4 then
some (.inr (S))
else
bnd (f10_canBe N v4 S) fun r8 S9 =>
if r8 = 0 then
f10_part_b153 N v1 v2 v3 v4 S9
else
bnp (f10_shownOf N v2 S9) fun r11 =>
bnp (f10_shownOf N v3 S9) fun r12 =>
lt_ (((20 : Int32) * r11) + r12) fun x13 =>
if v1 < 0 ∨ 4 ≤ v1.toNatClampNeg then none else
lt_ ((S9 65).1 v1.toNatClampNeg) fun x14 =>
lt_ ((1 : Int32) + x14) fun x15 =>
if r11 < 0 ∨ 20 ≤ r11.toNatClampNeg then none else
lt_ ((S9 68).1 r11.toNatClampNeg) fun x16 =>
if x16 = 0 then
if x13 < 0 ∨ 400 ≤ x13.toNatClampNeg then none else
lt_ ((S9 67).1 x13.toNatClampNeg) fun x19 =>
if x19 = 0 then
f10_part_b142 N v1 v2 v3 v4 x13 x15 r11 S9
else
if x13 < 0 ∨ 400 ≤ x13.toNatClampNeg then none else
lt_ ((S9 67).1 x13.toNatClampNeg) fun x20 =>
if x20 = x15 then
f10_part_b142 N v1 v2 v3 v4 x13 x15 r11 S9
else
f10_part_b138 N v1 v2 v3 v4 x13 x15 r11 S9
else
f10_part_b138 N v1 v2 v3 v4 x13 x15 r11 S9
def f10_part_b159 (N : Nat) (S : Mem) : Option (Unit × Mem) :=
some (((), S))
def f10_part_b49 (N : Nat) (v1 : Int32) (v2 : Int32) (v3 : Int32) (S : Mem) : Option (Unit × Mem) :=
bnp (lp N (fun s => f10_part_L52 N v1 v2 v3 s.1 s.2) ((0 : Int32), S)) fun z21 =>
f10_part_b159 N z21
def f10_part_b25 (N : Nat) (v1 : Int32) (v2 : Int32) (v3 : Int32) (S : Mem) : Option (Unit × Mem) :=
bnp (lp N (fun s => f10_part_L28 N v1 v2 v3 s.1 s.2) ((0 : Int32), S)) fun z6 =>
f10_part_b49 N v1 v2 v3 z6
def f10_part (N : Nat) (a1 : Int32) (a2 : Int32) (a3 : Int32) (S : Mem) : Option (Unit × Mem) :=
bnp (lp N (fun s => f10_part_L3 N a1 a2 a3 s.1 s.2) ((0 : Int32), S)) fun z3 =>
f10_part_b25 N a1 a2 a3 z3
set_option maxHeartbeats 1000000 in
theorem t10_part_L3 {E : En} {X : Cx} {Q : State → Prop} {N : Nat} {v1 : Int32} {v2 : Int32} {v3 : Int32} {v4 : Int32} {S : Mem} {o : ((Int32 × Mem) ⊕ (Mem))} (hF : Fx E X cX10_part RX10 8 none 4) (h : f10_part_L3 N v1 v2 v3 v4 S = some o) (hC : Sum.elim (fun (s : (Int32 × Mem)) => J E X Q s.2 3 [(0, .ref (eA E 57)), (1, .int v1), (2, .int v2), (3, .int v3), (4, .int s.1)] []) (fun (x : (Mem)) => J E X Q x 25 [(0, .ref (eA E 57)), (1, .int v1), (2, .int v2), (3, .int v3)] []) o) : J E X Q S 3 [(0, .ref (eA E 57)), (1, .int v1), (2, .int v2), (3, .int v3), (4, .int v4)] [] := by
  unfold f10_part_L3 at h
  refine j_iload hF 4 rfl dX10_part_3 ?_
  refine j_sipush (v := (400 : Int32)) hF (by decide) dX10_part_5 ?_
  refine j_icmp_ge (tgt := 25) hF h (by decide) dX10_part_8 (fun h => ?_) (fun h => ?_)
  · obtain rfl := ret1 h
    refine j_sub (lv' := [(0, .ref (eA E 57)), (1, .int v1), (2, .int v2), (3, .int v3)]) hF [0, 1, 2, 3] rfl ?_
    exact hC
  · refine j_aload_n hF rfl 0 rfl dX10_part_11 ?_
    refine gf10_17 hF (by decide) (s_57 E _) rfl bw_4_152 dX10_part_12 ?_
    refine j_iload hF 4 rfl dX10_part_15 ?_
    refine j_iconst (v := (0 : Int32)) hF (by decide) dX10_part_17 ?_
    refine j_iast hF (by decide) (s_67 E) h dX10_part_18 (fun h => ?_)
    refine j_nmM h (fun S1 h => ?_)
    refine j_iinc (v := (v4 + (1 : Int32))) (lv' := [(4, .int (v4 + (1 : Int32))), (0, .ref (eA E 57)), (1, .int v1), (2, .int v2), (3, .int v3)]) (q := 4) hF rfl (congrArg (fun z => v4 + z) (by decide)) (by decide) rfl dX10_part_19 ?_
    refine j_nmL h (fun x2 h => ?_)
    refine j_goto (tgt := 3) hF (by decide) dX10_part_22 ?_
    obtain rfl := ret1 h
    refine j_sub (lv' := [(0, .ref (eA E 57)), (1, .int v1), (2, .int v2), (3, .int v3), (4, .int x2)]) hF [1, 2, 3, 4, 0] rfl ?_
    exact hC
set_option maxHeartbeats 1000000 in
theorem t10_part_L28 {E : En} {X : Cx} {Q : State → Prop} {N : Nat} {v1 : Int32} {v2 : Int32} {v3 : Int32} {v4 : Int32} {S : Mem} {o : ((Int32 × Mem) ⊕ (Mem))} (hF : Fx E X cX10_part RX10 8 none 4) (h : f10_part_L28 N v1 v2 v3 v4 S = some o) (hC : Sum.elim (fun (s : (Int32 × Mem)) => J E X Q s.2 28 [(0, .ref (eA E 57)), (1, .int v1), (2, .int v2), (3, .int v3), (4, .int s.1)] []) (fun (x : (Mem)) => J E X Q x 49 [(0, .ref (eA E 57)), (1, .int v1), (2, .int v2), (3, .int v3)] []) o) : J E X Q S 28 [(0, .ref (eA E 57)), (1, .int v1), (2, .int v2), (3, .int v3), (4, .int v4)] [] := by
  unfold f10_part_L28 at h
  refine j_iload hF 4 rfl dX10_part_28 ?_
  refine j_bipush (v := (20 : Int32)) hF (by decide) dX10_part_30 ?_
  refine j_icmp_ge (tgt := 49) hF h (by decide) dX10_part_32 (fun h => ?_) (fun h => ?_)
  · obtain rfl := ret1 h
    refine j_sub (lv' := [(0, .ref (eA E 57)), (1, .int v1), (2, .int v2), (3, .int v3)]) hF [0, 1, 2, 3] rfl ?_
    exact hC
  · refine j_aload_n hF rfl 0 rfl dX10_part_35 ?_
    refine gf10_18 hF (by decide) (s_57 E _) rfl bw_4_153 dX10_part_36 ?_
    refine j_iload hF 4 rfl dX10_part_39 ?_
    refine j_iconst (v := (0 : Int32)) hF (by decide) dX10_part_41 ?_
    refine j_zast hF (by decide) (s_68 E) h dX10_part_42 (fun h => ?_)
    refine j_nmM h (fun S4 h => ?_)
    refine j_iinc (v := (v4 + (1 : Int32))) (lv' := [(4, .int (v4 + (1 : Int32))), (0, .ref (eA E 57)), (1, .int v1), (2, .int v2), (3, .int v3)]) (q := 4) hF rfl (congrArg (fun z => v4 + z) (by decide)) (by decide) rfl dX10_part_43 ?_
    refine j_nmL h (fun x5 h => ?_)
    refine j_goto (tgt := 28) hF (by decide) dX10_part_46 ?_
    obtain rfl := ret1 h
    refine j_sub (lv' := [(0, .ref (eA E 57)), (1, .int v1), (2, .int v2), (3, .int v3), (4, .int x5)]) hF [1, 2, 3, 4, 0] rfl ?_
    exact hC
set_option maxHeartbeats 1000000 in
theorem t10_part_b153 {E : En} {X : Cx} {Q : State → Prop} {N : Nat} {v1 : Int32} {v2 : Int32} {v3 : Int32} {v4 : Int32} {S : Mem} {o : ((Int32 × Mem) ⊕ (Mem))} (hF : Fx E X cX10_part RX10 8 none 4) (h : f10_part_b153 N v1 v2 v3 v4 S = some o) (hC : Sum.elim (fun (s : (Int32 × Mem)) => J E X Q s.2 52 [(0, .ref (eA E 57)), (1, .int v1), (2, .int v2), (3, .int v3), (4, .int s.1)] []) (fun (x : (Mem)) => J E X Q x 159 [] []) o) : J E X Q S 153 [(0, .ref (eA E 57)), (1, .int v1), (2, .int v2), (3, .int v3), (4, .int v4)] [] := by
  unfold f10_part_b153 at h
  refine j_iinc (v := (v4 + (1 : Int32))) (lv' := [(4, .int (v4 + (1 : Int32))), (0, .ref (eA E 57)), (1, .int v1), (2, .int v2), (3, .int v3)]) (q := 4) hF rfl (congrArg (fun z => v4 + z) (by decide)) (by decide) rfl dX10_part_153 ?_
  refine j_nmL h (fun x10 h => ?_)
  refine j_goto (tgt := 52) hF (by decide) dX10_part_156 ?_
  obtain rfl := ret1 h
  refine j_sub (lv' := [(0, .ref (eA E 57)), (1, .int v1), (2, .int v2), (3, .int v3), (4, .int x10)]) hF [1, 2, 3, 4, 0] rfl ?_
  exact hC
set_option maxHeartbeats 1000000 in
theorem t10_part_b143 {E : En} {X : Cx} {Q : State → Prop} {N : Nat} {v1 : Int32} {v2 : Int32} {v3 : Int32} {v4 : Int32} {v6 : Int32} {v7 : Int32} {w0 : Int32} {w1 : Int32} {S : Mem} {o : ((Int32 × Mem) ⊕ (Mem))} (hF : Fx E X cX10_part RX10 8 none 4) (h : f10_part_b143 N v1 v2 v3 v4 v6 v7 w0 w1 S = some o) (hC : Sum.elim (fun (s : (Int32 × Mem)) => J E X Q s.2 52 [(0, .ref (eA E 57)), (1, .int v1), (2, .int v2), (3, .int v3), (4, .int s.1)] []) (fun (x : (Mem)) => J E X Q x 159 [] []) o) : J E X Q S 143 [(0, .ref (eA E 57)), (1, .int v1), (2, .int v2), (3, .int v3), (4, .int v4), (6, .int v6), (7, .int v7)] [.int w0, .int w1, .ref (eA E 68)] := by
  unfold f10_part_b143 at h
  refine j_zast hF (by decide) (s_68 E) h dX10_part_143 (fun h => ?_)
  refine j_nmM h (fun S17 h => ?_)
  refine j_aload_n hF rfl 0 rfl dX10_part_144 ?_
  refine gf10_17 hF (by decide) (s_57 E _) rfl bw_4_152 dX10_part_145 ?_
  refine j_iload hF 5 rfl dX10_part_148 ?_
  refine j_iload hF 6 rfl dX10_part_150 ?_
  refine j_iast hF (by decide) (s_67 E) h dX10_part_152 (fun h => ?_)
  refine j_nmM h (fun S18 h => ?_)
  refine j_sub (lv' := [(0, .ref (eA E 57)), (1, .int v1), (2, .int v2), (3, .int v3), (4, .int v4)]) hF [0, 1, 2, 3, 4] rfl ?_
  exact t10_part_b153 hF h hC
set_option maxHeartbeats 1000000 in
theorem t10_part_b138 {E : En} {X : Cx} {Q : State → Prop} {N : Nat} {v1 : Int32} {v2 : Int32} {v3 : Int32} {v4 : Int32} {v6 : Int32} {v7 : Int32} {w0 : Int32} {S : Mem} {o : ((Int32 × Mem) ⊕ (Mem))} (hF : Fx E X cX10_part RX10 8 none 4) (h : f10_part_b138 N v1 v2 v3 v4 v6 v7 w0 S = some o) (hC : Sum.elim (fun (s : (Int32 × Mem)) => J E X Q s.2 52 [(0, .ref (eA E 57)), (1, .int v1), (2, .int v2), (3, .int v3), (4, .int s.1)] []) (fun (x : (Mem)) => J E X Q x 159 [] []) o) : J E X Q S 138 [(0, .ref (eA E 57)), (1, .int v1), (2, .int v2), (3, .int v3), (4, .int v4), (6, .int v6), (7, .int v7)] [.int w0, .ref (eA E 68)] := by
  unfold f10_part_b138 at h
  refine j_iconst (v := (1 : Int32)) hF (by decide) dX10_part_138 ?_
  refine j_goto (tgt := 143) hF (by decide) dX10_part_139 ?_
  exact t10_part_b143 hF h hC
set_option maxHeartbeats 1000000 in
theorem t10_part_b142 {E : En} {X : Cx} {Q : State → Prop} {N : Nat} {v1 : Int32} {v2 : Int32} {v3 : Int32} {v4 : Int32} {v6 : Int32} {v7 : Int32} {w0 : Int32} {S : Mem} {o : ((Int32 × Mem) ⊕ (Mem))} (hF : Fx E X cX10_part RX10 8 none 4) (h : f10_part_b142 N v1 v2 v3 v4 v6 v7 w0 S = some o) (hC : Sum.elim (fun (s : (Int32 × Mem)) => J E X Q s.2 52 [(0, .ref (eA E 57)), (1, .int v1), (2, .int v2), (3, .int v3), (4, .int s.1)] []) (fun (x : (Mem)) => J E X Q x 159 [] []) o) : J E X Q S 142 [(0, .ref (eA E 57)), (1, .int v1), (2, .int v2), (3, .int v3), (4, .int v4), (6, .int v6), (7, .int v7)] [.int w0, .ref (eA E 68)] := by
  unfold f10_part_b142 at h
  refine j_iconst (v := (0 : Int32)) hF (by decide) dX10_part_142 ?_
  exact t10_part_b143 hF h hC
set_option maxHeartbeats 1000000 in
theorem t10_part_L52 {E : En} {X : Cx} {Q : State → Prop} {N : Nat} {v1 : Int32} {v2 : Int32} {v3 : Int32} {v4 : Int32} {S : Mem} {o : ((Int32 × Mem) ⊕ (Mem))} (hF : Fx E X cX10_part RX10 8 none 4) (h : f10_part_L52 N v1 v2 v3 v4 S = some o) (hC : Sum.elim (fun (s : (Int32 × Mem)) => J E X Q s.2 52 [(0, .ref (eA E 57)), (1, .int v1), (2, .int v2), (3, .int v3), (4, .int s.1)] []) (fun (x : (Mem)) => J E X Q x 159 [] []) o) : J E X Q S 52 [(0, .ref (eA E 57)), (1, .int v1), (2, .int v2), (3, .int v3), (4, .int v4)] [] := by
  unfold f10_part_L52 at h
  refine j_iload hF 4 rfl dX10_part_52 ?_
  refine j_aload_n hF rfl 0 rfl dX10_part_54 ?_
  obtain ⟨r7, hr7, h⟩ := bnp_some h
  refine j_callV_i (As := []) (st := [.int v4]) hF rfl mv_10_worlds (by decide) (s_57 E _) rfl bw_5_47 rfl (by decide) (Nat.le_of_ble_eq_true rfl) dX10_part_55 (c10_worlds hr7) ?_
  refine j_icmp_ge (tgt := 159) hF h (by decide) dX10_part_58 (fun h => ?_) (fun h => ?_)
  · obtain rfl := ret1 h
    refine j_sub (lv' := []) hF [] rfl ?_
    exact hC
  · refine j_aload_n hF rfl 0 rfl dX10_part_61 ?_
    refine j_iload hF 4 rfl dX10_part_62 ?_
    obtain ⟨r8, S9, hr8, h⟩ := bnd_some h
    refine j_callV_i (As := [.int v4]) (st := []) hF rfl mv_10_canBe (by decide) (s_57 E _) rfl bw_5_51 rfl (by decide) (Nat.le_of_ble_eq_true rfl) dX10_part_64 (c10_canBe hr8) ?_
    refine j_if_eq (tgt := 153) hF h (by decide) dX10_part_67 (fun h => ?_) (fun h => ?_)
    · exact t10_part_b153 hF h hC
    · refine j_aload_n hF rfl 0 rfl dX10_part_70 ?_
      refine j_iload_n hF rfl 2 rfl dX10_part_71 ?_
      obtain ⟨r11, hr11, h⟩ := bnp_some h
      refine j_callV_i (As := [.int v2]) (st := []) hF rfl mv_10_shownOf (by decide) (s_57 E _) rfl bw_5_67 rfl (by decide) (Nat.le_of_ble_eq_true rfl) dX10_part_72 (c10_shownOf hr11) ?_
      refine j_istore (lv' := [(5, .int r11), (0, .ref (eA E 57)), (1, .int v1), (2, .int v2), (3, .int v3), (4, .int v4)]) hF (by decide) rfl dX10_part_75 ?_
      refine j_bipush (v := (20 : Int32)) hF (by decide) dX10_part_77 ?_
      refine j_iload hF 0 rfl dX10_part_79 ?_
      refine j_imul hF dX10_part_81 ?_
      refine j_aload_n hF rfl 1 rfl dX10_part_82 ?_
      refine j_iload_n hF rfl 4 rfl dX10_part_83 ?_
      obtain ⟨r12, hr12, h⟩ := bnp_some h
      refine j_callV_i (As := [.int v3]) (st := [.int ((20 : Int32) * r11)]) hF rfl mv_10_shownOf (by decide) (s_57 E _) rfl bw_5_67 rfl (by decide) (Nat.le_of_ble_eq_true rfl) dX10_part_84 (c10_shownOf hr12) ?_
      refine j_iadd hF dX10_part_87 ?_
      refine j_istore (lv' := [(6, .int (((20 : Int32) * r11) + r12)), (5, .int r11), (0, .ref (eA E 57)), (1, .int v1), (2, .int v2), (3, .int v3), (4, .int v4)]) hF (by decide) rfl dX10_part_88 ?_
      refine j_nmL h (fun x13 h => ?_)
      refine j_iconst (v := (1 : Int32)) hF (by decide) dX10_part_90 ?_
      refine j_aload_n hF rfl 2 rfl dX10_part_91 ?_
      refine gf10_15 hF (by decide) (s_57 E _) rfl bw_4_150 dX10_part_92 ?_
      refine j_iload_n hF rfl 3 rfl dX10_part_95 ?_
      refine j_iald hF (by decide) (s_65 E) h dX10_part_96 (fun h => ?_)
      refine j_nmT h (fun x14 h => ?_)
      refine j_iadd hF dX10_part_97 ?_
      refine j_istore (lv' := [(7, .int ((1 : Int32) + x14)), (6, .int x13), (5, .int r11), (0, .ref (eA E 57)), (1, .int v1), (2, .int v2), (3, .int v3), (4, .int v4)]) hF (by decide) rfl dX10_part_98 ?_
      refine j_nmL h (fun x15 h => ?_)
      refine j_aload_n hF rfl 3 rfl dX10_part_100 ?_
      refine gf10_18 hF (by decide) (s_57 E _) rfl bw_4_153 dX10_part_101 ?_
      refine j_iload hF 2 rfl dX10_part_104 ?_
      refine j_aload_n hF rfl 3 rfl dX10_part_106 ?_
      refine gf10_18 hF (by decide) (s_57 E _) rfl bw_4_153 dX10_part_107 ?_
      refine j_iload hF 2 rfl dX10_part_110 ?_
      refine j_zald hF (by decide) (s_68 E) h dX10_part_112 (fun h => ?_)
      refine j_nmT h (fun x16 h => ?_)
      refine j_if_ne (tgt := 138) hF h (by decide) dX10_part_113 (fun h => ?_) (fun h => ?_)
      · refine j_sub (lv' := [(0, .ref (eA E 57)), (1, .int v1), (2, .int v2), (3, .int v3), (4, .int v4), (6, .int x13), (7, .int x15)]) hF [3, 4, 5, 6, 7, 1, 0] rfl ?_
        exact t10_part_b138 hF h hC
      · refine j_aload_n hF rfl 3 rfl dX10_part_116 ?_
        refine gf10_17 hF (by decide) (s_57 E _) rfl bw_4_152 dX10_part_117 ?_
        refine j_iload hF 1 rfl dX10_part_120 ?_
        refine j_iald hF (by decide) (s_67 E) h dX10_part_122 (fun h => ?_)
        refine j_nmT h (fun x19 h => ?_)
        refine j_if_eq (tgt := 142) hF h (by decide) dX10_part_123 (fun h => ?_) (fun h => ?_)
        · refine j_sub (lv' := [(0, .ref (eA E 57)), (1, .int v1), (2, .int v2), (3, .int v3), (4, .int v4), (6, .int x13), (7, .int x15)]) hF [3, 4, 5, 6, 7, 1, 0] rfl ?_
          exact t10_part_b142 hF h hC
        · refine j_aload_n hF rfl 3 rfl dX10_part_126 ?_
          refine gf10_17 hF (by decide) (s_57 E _) rfl bw_4_152 dX10_part_127 ?_
          refine j_iload hF 1 rfl dX10_part_130 ?_
          refine j_iald hF (by decide) (s_67 E) h dX10_part_132 (fun h => ?_)
          refine j_nmT h (fun x20 h => ?_)
          refine j_iload hF 0 rfl dX10_part_133 ?_
          refine j_icmp_eq (tgt := 142) hF h (by decide) dX10_part_135 (fun h => ?_) (fun h => ?_)
          · refine j_sub (lv' := [(0, .ref (eA E 57)), (1, .int v1), (2, .int v2), (3, .int v3), (4, .int v4), (6, .int x13), (7, .int x15)]) hF [3, 4, 5, 6, 7, 1, 0] rfl ?_
            exact t10_part_b142 hF h hC
          · refine j_sub (lv' := [(0, .ref (eA E 57)), (1, .int v1), (2, .int v2), (3, .int v3), (4, .int v4), (6, .int x13), (7, .int x15)]) hF [3, 4, 5, 6, 7, 1, 0] rfl ?_
            exact t10_part_b138 hF h hC
set_option maxHeartbeats 1000000 in
theorem t10_part_b159 {E : En} {X : Cx} {Q : State → Prop} {N : Nat} {S : Mem} {o : (Unit × Mem)} (hF : Fx E X cX10_part RX10 8 none 4) (h : f10_part_b159 N S = some o) (hC : Q = RQ E X (none) o.2) : J E X Q S 159 [] [] := by
  unfold f10_part_b159 at h
  obtain rfl := ret1 h
  exact j_vret hF hC dX10_part_159
set_option maxHeartbeats 1000000 in
theorem t10_part_b49 {E : En} {X : Cx} {Q : State → Prop} {N : Nat} {v1 : Int32} {v2 : Int32} {v3 : Int32} {S : Mem} {o : (Unit × Mem)} (hF : Fx E X cX10_part RX10 8 none 4) (h : f10_part_b49 N v1 v2 v3 S = some o) (hC : Q = RQ E X (none) o.2) : J E X Q S 49 [(0, .ref (eA E 57)), (1, .int v1), (2, .int v2), (3, .int v3)] [] := by
  unfold f10_part_b49 at h
  refine j_iconst (v := (0 : Int32)) hF (by decide) dX10_part_49 ?_
  refine j_istore (lv' := [(4, .int (0 : Int32)), (0, .ref (eA E 57)), (1, .int v1), (2, .int v2), (3, .int v3)]) hF (by decide) rfl dX10_part_50 ?_
  obtain ⟨z21, hz21, h⟩ := bnp_some h
  refine j_sub (lv' := [(0, .ref (eA E 57)), (1, .int v1), (2, .int v2), (3, .int v3), (4, .int (0 : Int32))]) hF [1, 2, 3, 4, 0] rfl ?_
  have hx : (fun (x : (Mem)) => J E X Q x 159 [] []) z21 := by
    exact t10_part_b159 hF h hC
  exact lp_rule (Jh := fun (s : (Int32 × Mem)) => J E X Q s.2 52 [(0, .ref (eA E 57)), (1, .int v1), (2, .int v2), (3, .int v3), (4, .int s.1)] []) (C := fun (x : (Mem)) => J E X Q x 159 [] []) (fun s o h hC => t10_part_L52 hF h hC) N ((0 : Int32), S) z21 hz21 hx
set_option maxHeartbeats 1000000 in
theorem t10_part_b25 {E : En} {X : Cx} {Q : State → Prop} {N : Nat} {v1 : Int32} {v2 : Int32} {v3 : Int32} {S : Mem} {o : (Unit × Mem)} (hF : Fx E X cX10_part RX10 8 none 4) (h : f10_part_b25 N v1 v2 v3 S = some o) (hC : Q = RQ E X (none) o.2) : J E X Q S 25 [(0, .ref (eA E 57)), (1, .int v1), (2, .int v2), (3, .int v3)] [] := by
  unfold f10_part_b25 at h
  refine j_iconst (v := (0 : Int32)) hF (by decide) dX10_part_25 ?_
  refine j_istore (lv' := [(4, .int (0 : Int32)), (0, .ref (eA E 57)), (1, .int v1), (2, .int v2), (3, .int v3)]) hF (by decide) rfl dX10_part_26 ?_
  obtain ⟨z6, hz6, h⟩ := bnp_some h
  refine j_sub (lv' := [(0, .ref (eA E 57)), (1, .int v1), (2, .int v2), (3, .int v3), (4, .int (0 : Int32))]) hF [1, 2, 3, 4, 0] rfl ?_
  have hx : (fun (x : (Mem)) => J E X Q x 49 [(0, .ref (eA E 57)), (1, .int v1), (2, .int v2), (3, .int v3)] []) z6 := by
    exact t10_part_b49 hF h hC
  exact lp_rule (Jh := fun (s : (Int32 × Mem)) => J E X Q s.2 28 [(0, .ref (eA E 57)), (1, .int v1), (2, .int v2), (3, .int v3), (4, .int s.1)] []) (C := fun (x : (Mem)) => J E X Q x 49 [(0, .ref (eA E 57)), (1, .int v1), (2, .int v2), (3, .int v3)] []) (fun s o h hC => t10_part_L28 hF h hC) N ((0 : Int32), S) z6 hz6 hx
set_option maxHeartbeats 1000000 in
theorem t10_part {E : En} {X : Cx} {Q : State → Prop} {N : Nat} {a1 : Int32} {a2 : Int32} {a3 : Int32} {S : Mem} {o : (Unit × Mem)} (hF : Fx E X cX10_part RX10 8 none 4) (h : f10_part N a1 a2 a3 S = some o) (hC : Q = RQ E X (none) o.2) : J E X Q S 0 [(0, .ref (eA E 57)), (1, .int a1), (2, .int a2), (3, .int a3)] [] := by
  unfold f10_part at h
  refine j_iconst (v := (0 : Int32)) hF (by decide) dX10_part_0 ?_
  refine j_istore (lv' := [(4, .int (0 : Int32)), (0, .ref (eA E 57)), (1, .int a1), (2, .int a2), (3, .int a3)]) hF (by decide) rfl dX10_part_1 ?_
  obtain ⟨z3, hz3, h⟩ := bnp_some h
  refine j_sub (lv' := [(0, .ref (eA E 57)), (1, .int a1), (2, .int a2), (3, .int a3), (4, .int (0 : Int32))]) hF [1, 2, 3, 4, 0] rfl ?_
  have hx : (fun (x : (Mem)) => J E X Q x 25 [(0, .ref (eA E 57)), (1, .int a1), (2, .int a2), (3, .int a3)] []) z3 := by
    exact t10_part_b25 hF h hC
  exact lp_rule (Jh := fun (s : (Int32 × Mem)) => J E X Q s.2 3 [(0, .ref (eA E 57)), (1, .int a1), (2, .int a2), (3, .int a3), (4, .int s.1)] []) (C := fun (x : (Mem)) => J E X Q x 25 [(0, .ref (eA E 57)), (1, .int a1), (2, .int a2), (3, .int a3)] []) (fun s o h hC => t10_part_L3 hF h hC) N ((0 : Int32), S) z3 hz3 hx
set_option maxHeartbeats 1000000 in
theorem c10_part {E : En} {N : Nat} {a1 : Int32} {a2 : Int32} {a3 : Int32} {S So : Mem} {ro : Unit} (h : f10_part N a1 a2 a3 S = some (ro, So)) : CT E yX10_part cX10_part 8 none 4 [.ref (eA E 57), .int a1, .int a2, .int a3] S (none) So :=
  CT_of (by decide) (Nat.le_of_ble_eq_true rfl) (fun X hF => t10_part hF h rfl)
def f10_anyBad_b28 (N : Nat) (v2 : Int32) (w0 : Int32) (S : Mem) : Option ((Int32 × Int32) ⊕ (Int32)) :=
lt_ (v2 + (1 : Int32)) fun x1 =>
some (.inl (w0, x1))
def f10_anyBad_b23 (N : Nat) (v2 : Int32) (S : Mem) : Option ((Int32 × Int32) ⊕ (Int32)) :=
f10_anyBad_b28 N v2 (1 : Int32) S
def f10_anyBad_L4 (N : Nat) (v1 : Int32) (v2 : Int32) (S : Mem) : Option ((Int32 × Int32) ⊕ (Int32)) :=
if (20 : Int32) ≤ v2 then
some (.inr (v1))
else
if v1 = 0 then
if v2 < 0 ∨ 20 ≤ v2.toNatClampNeg then none else
lt_ ((S 68).1 v2.toNatClampNeg) fun x2 =>
if x2 = 0 then
f10_anyBad_b28 N v2 (0 : Int32) S
else
f10_anyBad_b23 N v2 S
else
f10_anyBad_b23 N v2 S
def f10_anyBad_b35 (N : Nat) (v1 : Int32) (S : Mem) : Option Int32 :=
if v1 = 0 ∨ v1 = 1 then
some (v1) else none
def f10_anyBad (N : Nat) (S : Mem) : Option Int32 :=
bnp (lp N (fun s => f10_anyBad_L4 N s.1 s.2 S) ((0 : Int32), (0 : Int32))) fun z3 =>
f10_anyBad_b35 N z3 S
set_option maxHeartbeats 1000000 in
theorem t10_anyBad_b28 {E : En} {X : Cx} {Q : State → Prop} {N : Nat} {v2 : Int32} {w0 : Int32} {S : Mem} {o : ((Int32 × Int32) ⊕ (Int32))} (hF : Fx E X cX10_anyBad RX10 3 (some .boolean) 0) (h : f10_anyBad_b28 N v2 w0 S = some o) (hC : Sum.elim (fun (s : (Int32 × Int32)) => J E X Q S 4 [(0, .ref (eA E 57)), (1, .int s.1), (2, .int s.2)] []) (fun (x : (Int32)) => J E X Q S 35 [(1, .int x)] []) o) : J E X Q S 28 [(0, .ref (eA E 57)), (2, .int v2)] [.int w0] := by
  unfold f10_anyBad_b28 at h
  refine j_istore_n (lv' := [(1, .int w0), (0, .ref (eA E 57)), (2, .int v2)]) hF rfl (by decide) rfl dX10_anyBad_28 ?_
  refine j_iinc (v := (v2 + (1 : Int32))) (lv' := [(2, .int (v2 + (1 : Int32))), (1, .int w0), (0, .ref (eA E 57))]) (q := 2) hF rfl (congrArg (fun z => v2 + z) (by decide)) (by decide) rfl dX10_anyBad_29 ?_
  refine j_nmL h (fun x1 h => ?_)
  refine j_goto (tgt := 4) hF (by decide) dX10_anyBad_32 ?_
  obtain rfl := ret1 h
  refine j_sub (lv' := [(0, .ref (eA E 57)), (1, .int w0), (2, .int x1)]) hF [2, 1, 0] rfl ?_
  exact hC
set_option maxHeartbeats 1000000 in
theorem t10_anyBad_b23 {E : En} {X : Cx} {Q : State → Prop} {N : Nat} {v2 : Int32} {S : Mem} {o : ((Int32 × Int32) ⊕ (Int32))} (hF : Fx E X cX10_anyBad RX10 3 (some .boolean) 0) (h : f10_anyBad_b23 N v2 S = some o) (hC : Sum.elim (fun (s : (Int32 × Int32)) => J E X Q S 4 [(0, .ref (eA E 57)), (1, .int s.1), (2, .int s.2)] []) (fun (x : (Int32)) => J E X Q S 35 [(1, .int x)] []) o) : J E X Q S 23 [(0, .ref (eA E 57)), (2, .int v2)] [] := by
  unfold f10_anyBad_b23 at h
  refine j_iconst (v := (1 : Int32)) hF (by decide) dX10_anyBad_23 ?_
  refine j_goto (tgt := 28) hF (by decide) dX10_anyBad_24 ?_
  exact t10_anyBad_b28 hF h hC
set_option maxHeartbeats 1000000 in
theorem t10_anyBad_L4 {E : En} {X : Cx} {Q : State → Prop} {N : Nat} {v1 : Int32} {v2 : Int32} {S : Mem} {o : ((Int32 × Int32) ⊕ (Int32))} (hF : Fx E X cX10_anyBad RX10 3 (some .boolean) 0) (h : f10_anyBad_L4 N v1 v2 S = some o) (hC : Sum.elim (fun (s : (Int32 × Int32)) => J E X Q S 4 [(0, .ref (eA E 57)), (1, .int s.1), (2, .int s.2)] []) (fun (x : (Int32)) => J E X Q S 35 [(1, .int x)] []) o) : J E X Q S 4 [(0, .ref (eA E 57)), (1, .int v1), (2, .int v2)] [] := by
  unfold f10_anyBad_L4 at h
  refine j_iload_n hF rfl 2 rfl dX10_anyBad_4 ?_
  refine j_bipush (v := (20 : Int32)) hF (by decide) dX10_anyBad_5 ?_
  refine j_icmp_ge (tgt := 35) hF h (by decide) dX10_anyBad_7 (fun h => ?_) (fun h => ?_)
  · obtain rfl := ret1 h
    refine j_sub (lv' := [(1, .int v1)]) hF [1] rfl ?_
    exact hC
  · refine j_iload_n hF rfl 1 rfl dX10_anyBad_10 ?_
    refine j_if_ne (tgt := 23) hF h (by decide) dX10_anyBad_11 (fun h => ?_) (fun h => ?_)
    · refine j_sub (lv' := [(0, .ref (eA E 57)), (2, .int v2)]) hF [0, 2] rfl ?_
      exact t10_anyBad_b23 hF h hC
    · refine j_aload_n hF rfl 0 rfl dX10_anyBad_14 ?_
      refine gf10_18 hF (by decide) (s_57 E _) rfl bw_4_153 dX10_anyBad_15 ?_
      refine j_iload_n hF rfl 2 rfl dX10_anyBad_18 ?_
      refine j_zald hF (by decide) (s_68 E) h dX10_anyBad_19 (fun h => ?_)
      refine j_nmT h (fun x2 h => ?_)
      refine j_if_eq (tgt := 27) hF h (by decide) dX10_anyBad_20 (fun h => ?_) (fun h => ?_)
      · refine j_iconst (v := (0 : Int32)) hF (by decide) dX10_anyBad_27 ?_
        refine j_sub (lv' := [(0, .ref (eA E 57)), (2, .int v2)]) hF [0, 2] rfl ?_
        exact t10_anyBad_b28 hF h hC
      · refine j_sub (lv' := [(0, .ref (eA E 57)), (2, .int v2)]) hF [0, 2] rfl ?_
        exact t10_anyBad_b23 hF h hC
set_option maxHeartbeats 1000000 in
theorem t10_anyBad_b35 {E : En} {X : Cx} {Q : State → Prop} {N : Nat} {v1 : Int32} {S : Mem} {o : Int32} (hF : Fx E X cX10_anyBad RX10 3 (some .boolean) 0) (h : f10_anyBad_b35 N v1 S = some o) (hC : Q = RQ E X (some (.int o)) S) : J E X Q S 35 [(1, .int v1)] [] := by
  unfold f10_anyBad_b35 at h
  refine j_iload_n hF rfl 0 rfl dX10_anyBad_35 ?_
  obtain ⟨hz, h⟩ := zg_some h
  obtain rfl := ret1 h
  exact j_ret_boolean hF (zg_nar hz) hC dX10_anyBad_36
set_option maxHeartbeats 1000000 in
theorem t10_anyBad {E : En} {X : Cx} {Q : State → Prop} {N : Nat} {S : Mem} {o : Int32} (hF : Fx E X cX10_anyBad RX10 3 (some .boolean) 0) (h : f10_anyBad N S = some o) (hC : Q = RQ E X (some (.int o)) S) : J E X Q S 0 [(0, .ref (eA E 57))] [] := by
  unfold f10_anyBad at h
  refine j_iconst (v := (0 : Int32)) hF (by decide) dX10_anyBad_0 ?_
  refine j_istore_n (lv' := [(1, .int (0 : Int32)), (0, .ref (eA E 57))]) hF rfl (by decide) rfl dX10_anyBad_1 ?_
  refine j_iconst (v := (0 : Int32)) hF (by decide) dX10_anyBad_2 ?_
  refine j_istore_n (lv' := [(2, .int (0 : Int32)), (1, .int (0 : Int32)), (0, .ref (eA E 57))]) hF rfl (by decide) rfl dX10_anyBad_3 ?_
  obtain ⟨z3, hz3, h⟩ := bnp_some h
  refine j_sub (lv' := [(0, .ref (eA E 57)), (1, .int (0 : Int32)), (2, .int (0 : Int32))]) hF [2, 1, 0] rfl ?_
  have hx : (fun (x : (Int32)) => J E X Q S 35 [(1, .int x)] []) z3 := by
    exact t10_anyBad_b35 hF h hC
  exact lp_rule (Jh := fun (s : (Int32 × Int32)) => J E X Q S 4 [(0, .ref (eA E 57)), (1, .int s.1), (2, .int s.2)] []) (C := fun (x : (Int32)) => J E X Q S 35 [(1, .int x)] []) (fun s o h hC => t10_anyBad_L4 hF h hC) N ((0 : Int32), (0 : Int32)) z3 hz3 hx
set_option maxHeartbeats 1000000 in
theorem c10_anyBad {E : En} {N : Nat} {S : Mem} {ro : Int32} (h : f10_anyBad N S = some ro) : CT E yX10_anyBad cX10_anyBad 3 (some .boolean) 0 [.ref (eA E 57)] S (some (.int ro)) S :=
  CT_of (by decide) (Nat.le_of_ble_eq_true rfl) (fun X hF => t10_anyBad hF h rfl)
def f10_isEnough_b58 (N : Nat) (v1 : Int32) (v2 : Int32) (v4 : Int32) (v5 : Int32) (w0 : Int32) (w1 : Int32) (S : Mem) : Option ((Int32 × Int32) ⊕ (Int32)) :=
lt_ (w1 &&& w0) fun x5 =>
lt_ (v5 + (1 : Int32)) fun x6 =>
some (.inl (x5, x6))
def f10_isEnough_L30 (N : Nat) (v1 : Int32) (v2 : Int32) (v4 : Int32) (v3 : Int32) (v5 : Int32) (S : Mem) : Option ((Int32 × Int32) ⊕ (Int32)) :=
if (20 : Int32) ≤ v5 then
some (.inr (v3))
else
if v5 < 0 ∨ 20 ≤ v5.toNatClampNeg then none else
lt_ ((S 68).1 v5.toNatClampNeg) fun x4 =>
if x4 = 0 then
f10_isEnough_b58 N v1 v2 v4 v5 (((1 : Int32) <<< (v5 &&& 31)) ^^^ (-1 : Int32)) v3 S
else
f10_isEnough_b58 N v1 v2 v4 v5 (-1 : Int32) v3 S
def f10_isEnough_b66 (N : Nat) (v1 : Int32) (v2 : Int32) (v3 : Int32) (v4 : Int32) (S : Mem) : Option ((Int32 × Int32 × Mem) ⊕ (Int32 × Mem)) :=
lt_ (v4 + (1 : Int32)) fun x8 =>
some (.inl (v3, x8, S))
def f10_isEnough_L6 (N : Nat) (v1 : Int32) (v2 : Int32) (v3 : Int32) (v4 : Int32) (S : Mem) : Option ((Int32 × Int32 × Mem) ⊕ (Int32 × Mem)) :=
if (0 : Int32) < 0 ∨ 2 ≤ (0 : Int32).toNatClampNeg then none else
lt_ ((S 59).1 (0 : Int32).toNatClampNeg) fun x1 =>
if ((1 : Int32) <<< (x1 &&& 31)) ≤ v4 then
some (.inr (v3, S))
else
bnd (f10_part N v1 v2 v4 S) fun r2 S3 =>
bnp (lp N (fun s => f10_isEnough_L30 N v1 v2 v4 s.1 s.2 S3) (v3, (0 : Int32))) fun z7 =>
f10_isEnough_b66 N v1 v2 z7 v4 S3
def f10_isEnough_b72 (N : Nat) (v3 : Int32) (S : Mem) : Option (Int32 × Mem) :=
if v3 = 0 then
some (((1 : Int32), S))
else
some (((0 : Int32), S))
def f10_isEnough (N : Nat) (a1 : Int32) (a2 : Int32) (S : Mem) : Option (Int32 × Mem) :=
bnp (lp N (fun s => f10_isEnough_L6 N a1 a2 s.1 s.2.1 s.2.2) ((1048575 : Int32), (0 : Int32), S)) fun z9 =>
f10_isEnough_b72 N z9.1 z9.2
set_option maxHeartbeats 1000000 in
theorem t10_isEnough_b58 {E : En} {X : Cx} {Q : State → Prop} {N : Nat} {v1 : Int32} {v2 : Int32} {v4 : Int32} {v5 : Int32} {w0 : Int32} {w1 : Int32} {S : Mem} {o : ((Int32 × Int32) ⊕ (Int32))} (hF : Fx E X cX10_isEnough RX10 6 (some .boolean) 5) (h : f10_isEnough_b58 N v1 v2 v4 v5 w0 w1 S = some o) (hC : Sum.elim (fun (s : (Int32 × Int32)) => J E X Q S 30 [(0, .ref (eA E 57)), (1, .int v1), (2, .int v2), (3, .int s.1), (4, .int v4), (5, .int s.2)] []) (fun (x : (Int32)) => J E X Q S 66 [(0, .ref (eA E 57)), (1, .int v1), (2, .int v2), (3, .int x), (4, .int v4)] []) o) : J E X Q S 58 [(0, .ref (eA E 57)), (1, .int v1), (2, .int v2), (4, .int v4), (5, .int v5)] [.int w0, .int w1] := by
  unfold f10_isEnough_b58 at h
  refine j_iand hF dX10_isEnough_58 ?_
  refine j_istore_n (lv' := [(3, .int (w1 &&& w0)), (0, .ref (eA E 57)), (1, .int v1), (2, .int v2), (4, .int v4), (5, .int v5)]) hF rfl (by decide) rfl dX10_isEnough_59 ?_
  refine j_nmL h (fun x5 h => ?_)
  refine j_iinc (v := (v5 + (1 : Int32))) (lv' := [(5, .int (v5 + (1 : Int32))), (3, .int x5), (0, .ref (eA E 57)), (1, .int v1), (2, .int v2), (4, .int v4)]) (q := 5) hF rfl (congrArg (fun z => v5 + z) (by decide)) (by decide) rfl dX10_isEnough_60 ?_
  refine j_nmL h (fun x6 h => ?_)
  refine j_goto (tgt := 30) hF (by decide) dX10_isEnough_63 ?_
  obtain rfl := ret1 h
  refine j_sub (lv' := [(0, .ref (eA E 57)), (1, .int v1), (2, .int v2), (3, .int x5), (4, .int v4), (5, .int x6)]) hF [2, 3, 4, 1, 5, 0] rfl ?_
  exact hC
set_option maxHeartbeats 1000000 in
theorem t10_isEnough_L30 {E : En} {X : Cx} {Q : State → Prop} {N : Nat} {v1 : Int32} {v2 : Int32} {v4 : Int32} {v3 : Int32} {v5 : Int32} {S : Mem} {o : ((Int32 × Int32) ⊕ (Int32))} (hF : Fx E X cX10_isEnough RX10 6 (some .boolean) 5) (h : f10_isEnough_L30 N v1 v2 v4 v3 v5 S = some o) (hC : Sum.elim (fun (s : (Int32 × Int32)) => J E X Q S 30 [(0, .ref (eA E 57)), (1, .int v1), (2, .int v2), (3, .int s.1), (4, .int v4), (5, .int s.2)] []) (fun (x : (Int32)) => J E X Q S 66 [(0, .ref (eA E 57)), (1, .int v1), (2, .int v2), (3, .int x), (4, .int v4)] []) o) : J E X Q S 30 [(0, .ref (eA E 57)), (1, .int v1), (2, .int v2), (3, .int v3), (4, .int v4), (5, .int v5)] [] := by
  unfold f10_isEnough_L30 at h
  refine j_iload hF 5 rfl dX10_isEnough_30 ?_
  refine j_bipush (v := (20 : Int32)) hF (by decide) dX10_isEnough_32 ?_
  refine j_icmp_ge (tgt := 66) hF h (by decide) dX10_isEnough_34 (fun h => ?_) (fun h => ?_)
  · obtain rfl := ret1 h
    refine j_sub (lv' := [(0, .ref (eA E 57)), (1, .int v1), (2, .int v2), (3, .int v3), (4, .int v4)]) hF [0, 1, 2, 3, 4] rfl ?_
    exact hC
  · refine j_iload_n hF rfl 3 rfl dX10_isEnough_37 ?_
    refine j_aload_n hF rfl 0 rfl dX10_isEnough_38 ?_
    refine gf10_18 hF (by decide) (s_57 E _) rfl bw_4_153 dX10_isEnough_39 ?_
    refine j_iload hF 5 rfl dX10_isEnough_42 ?_
    refine j_zald hF (by decide) (s_68 E) h dX10_isEnough_44 (fun h => ?_)
    refine j_nmT h (fun x4 h => ?_)
    refine j_if_eq (tgt := 52) hF h (by decide) dX10_isEnough_45 (fun h => ?_) (fun h => ?_)
    · refine j_iconst (v := (1 : Int32)) hF (by decide) dX10_isEnough_52 ?_
      refine j_iload hF 5 rfl dX10_isEnough_53 ?_
      refine j_ishl hF dX10_isEnough_55 ?_
      refine j_iconst (v := (-1 : Int32)) hF (by decide) dX10_isEnough_56 ?_
      refine j_ixor hF dX10_isEnough_57 ?_
      refine j_sub (lv' := [(0, .ref (eA E 57)), (1, .int v1), (2, .int v2), (4, .int v4), (5, .int v5)]) hF [0, 1, 2, 4, 5] rfl ?_
      exact t10_isEnough_b58 hF h hC
    · refine j_iconst (v := (-1 : Int32)) hF (by decide) dX10_isEnough_48 ?_
      refine j_goto (tgt := 58) hF (by decide) dX10_isEnough_49 ?_
      refine j_sub (lv' := [(0, .ref (eA E 57)), (1, .int v1), (2, .int v2), (4, .int v4), (5, .int v5)]) hF [0, 1, 2, 4, 5] rfl ?_
      exact t10_isEnough_b58 hF h hC
set_option maxHeartbeats 1000000 in
theorem t10_isEnough_b66 {E : En} {X : Cx} {Q : State → Prop} {N : Nat} {v1 : Int32} {v2 : Int32} {v3 : Int32} {v4 : Int32} {S : Mem} {o : ((Int32 × Int32 × Mem) ⊕ (Int32 × Mem))} (hF : Fx E X cX10_isEnough RX10 6 (some .boolean) 5) (h : f10_isEnough_b66 N v1 v2 v3 v4 S = some o) (hC : Sum.elim (fun (s : (Int32 × Int32 × Mem)) => J E X Q s.2.2 6 [(0, .ref (eA E 57)), (1, .int v1), (2, .int v2), (3, .int s.1), (4, .int s.2.1)] []) (fun (x : (Int32 × Mem)) => J E X Q x.2 72 [(3, .int x.1)] []) o) : J E X Q S 66 [(0, .ref (eA E 57)), (1, .int v1), (2, .int v2), (3, .int v3), (4, .int v4)] [] := by
  unfold f10_isEnough_b66 at h
  refine j_iinc (v := (v4 + (1 : Int32))) (lv' := [(4, .int (v4 + (1 : Int32))), (0, .ref (eA E 57)), (1, .int v1), (2, .int v2), (3, .int v3)]) (q := 4) hF rfl (congrArg (fun z => v4 + z) (by decide)) (by decide) rfl dX10_isEnough_66 ?_
  refine j_nmL h (fun x8 h => ?_)
  refine j_goto (tgt := 6) hF (by decide) dX10_isEnough_69 ?_
  obtain rfl := ret1 h
  refine j_sub (lv' := [(0, .ref (eA E 57)), (1, .int v1), (2, .int v2), (3, .int v3), (4, .int x8)]) hF [1, 2, 3, 4, 0] rfl ?_
  exact hC
set_option maxHeartbeats 1000000 in
theorem t10_isEnough_L6 {E : En} {X : Cx} {Q : State → Prop} {N : Nat} {v1 : Int32} {v2 : Int32} {v3 : Int32} {v4 : Int32} {S : Mem} {o : ((Int32 × Int32 × Mem) ⊕ (Int32 × Mem))} (hF : Fx E X cX10_isEnough RX10 6 (some .boolean) 5) (h : f10_isEnough_L6 N v1 v2 v3 v4 S = some o) (hC : Sum.elim (fun (s : (Int32 × Int32 × Mem)) => J E X Q s.2.2 6 [(0, .ref (eA E 57)), (1, .int v1), (2, .int v2), (3, .int s.1), (4, .int s.2.1)] []) (fun (x : (Int32 × Mem)) => J E X Q x.2 72 [(3, .int x.1)] []) o) : J E X Q S 6 [(0, .ref (eA E 57)), (1, .int v1), (2, .int v2), (3, .int v3), (4, .int v4)] [] := by
  unfold f10_isEnough_L6 at h
  refine j_iload hF 4 rfl dX10_isEnough_6 ?_
  refine j_iconst (v := (1 : Int32)) hF (by decide) dX10_isEnough_8 ?_
  refine j_aload_n hF rfl 0 rfl dX10_isEnough_9 ?_
  refine gf10_3 hF (by decide) (s_57 E _) rfl bw_4_138 dX10_isEnough_10 ?_
  refine j_iconst (v := (0 : Int32)) hF (by decide) dX10_isEnough_13 ?_
  refine j_iald hF (by decide) (s_59 E) h dX10_isEnough_14 (fun h => ?_)
  refine j_nmT h (fun x1 h => ?_)
  refine j_ishl hF dX10_isEnough_15 ?_
  refine j_icmp_ge (tgt := 72) hF h (by decide) dX10_isEnough_16 (fun h => ?_) (fun h => ?_)
  · obtain rfl := ret1 h
    refine j_sub (lv' := [(3, .int v3)]) hF [3] rfl ?_
    exact hC
  · refine j_aload_n hF rfl 0 rfl dX10_isEnough_19 ?_
    refine j_iload_n hF rfl 1 rfl dX10_isEnough_20 ?_
    refine j_iload_n hF rfl 2 rfl dX10_isEnough_21 ?_
    refine j_iload hF 4 rfl dX10_isEnough_22 ?_
    obtain ⟨r2, S3, hr2, h⟩ := bnd_some h
    refine j_callV_v (As := [.int v1, .int v2, .int v4]) (st := []) hF rfl mv_10_part (by decide) (s_57 E _) rfl bw_5_98 rfl (by decide) (Nat.le_of_ble_eq_true rfl) dX10_isEnough_24 (c10_part hr2) ?_
    refine j_iconst (v := (0 : Int32)) hF (by decide) dX10_isEnough_27 ?_
    refine j_istore (lv' := [(5, .int (0 : Int32)), (0, .ref (eA E 57)), (1, .int v1), (2, .int v2), (3, .int v3), (4, .int v4)]) hF (by decide) rfl dX10_isEnough_28 ?_
    obtain ⟨z7, hz7, h⟩ := bnp_some h
    refine j_sub (lv' := [(0, .ref (eA E 57)), (1, .int v1), (2, .int v2), (3, .int v3), (4, .int v4), (5, .int (0 : Int32))]) hF [1, 2, 3, 4, 5, 0] rfl ?_
    have hx : (fun (x : (Int32)) => J E X Q S3 66 [(0, .ref (eA E 57)), (1, .int v1), (2, .int v2), (3, .int x), (4, .int v4)] []) z7 := by
      exact t10_isEnough_b66 hF h hC
    exact lp_rule (Jh := fun (s : (Int32 × Int32)) => J E X Q S3 30 [(0, .ref (eA E 57)), (1, .int v1), (2, .int v2), (3, .int s.1), (4, .int v4), (5, .int s.2)] []) (C := fun (x : (Int32)) => J E X Q S3 66 [(0, .ref (eA E 57)), (1, .int v1), (2, .int v2), (3, .int x), (4, .int v4)] []) (fun s o h hC => t10_isEnough_L30 hF h hC) N (v3, (0 : Int32)) z7 hz7 hx
set_option maxHeartbeats 1000000 in
theorem t10_isEnough_b72 {E : En} {X : Cx} {Q : State → Prop} {N : Nat} {v3 : Int32} {S : Mem} {o : (Int32 × Mem)} (hF : Fx E X cX10_isEnough RX10 6 (some .boolean) 5) (h : f10_isEnough_b72 N v3 S = some o) (hC : Q = RQ E X (some (.int o.1)) o.2) : J E X Q S 72 [(3, .int v3)] [] := by
  unfold f10_isEnough_b72 at h
  refine j_iload_n hF rfl 0 rfl dX10_isEnough_72 ?_
  refine j_if_ne (tgt := 80) hF h (by decide) dX10_isEnough_73 (fun h => ?_) (fun h => ?_)
  · refine j_iconst (v := (0 : Int32)) hF (by decide) dX10_isEnough_80 ?_
    obtain rfl := ret1 h
    exact j_ret_boolean hF (by decide) hC dX10_isEnough_81
  · refine j_iconst (v := (1 : Int32)) hF (by decide) dX10_isEnough_76 ?_
    refine j_goto (tgt := 81) hF (by decide) dX10_isEnough_77 ?_
    obtain rfl := ret1 h
    exact j_ret_boolean hF (by decide) hC dX10_isEnough_81
set_option maxHeartbeats 1000000 in
theorem t10_isEnough {E : En} {X : Cx} {Q : State → Prop} {N : Nat} {a1 : Int32} {a2 : Int32} {S : Mem} {o : (Int32 × Mem)} (hF : Fx E X cX10_isEnough RX10 6 (some .boolean) 5) (h : f10_isEnough N a1 a2 S = some o) (hC : Q = RQ E X (some (.int o.1)) o.2) : J E X Q S 0 [(0, .ref (eA E 57)), (1, .int a1), (2, .int a2)] [] := by
  unfold f10_isEnough at h
  refine j_ldc (v := (1048575 : Int32)) hF bw_5_110 dX10_isEnough_0 ?_
  refine j_istore_n (lv' := [(3, .int (1048575 : Int32)), (0, .ref (eA E 57)), (1, .int a1), (2, .int a2)]) hF rfl (by decide) rfl dX10_isEnough_2 ?_
  refine j_iconst (v := (0 : Int32)) hF (by decide) dX10_isEnough_3 ?_
  refine j_istore (lv' := [(4, .int (0 : Int32)), (3, .int (1048575 : Int32)), (0, .ref (eA E 57)), (1, .int a1), (2, .int a2)]) hF (by decide) rfl dX10_isEnough_4 ?_
  obtain ⟨z9, hz9, h⟩ := bnp_some h
  refine j_sub (lv' := [(0, .ref (eA E 57)), (1, .int a1), (2, .int a2), (3, .int (1048575 : Int32)), (4, .int (0 : Int32))]) hF [2, 3, 4, 1, 0] rfl ?_
  have hx : (fun (x : (Int32 × Mem)) => J E X Q x.2 72 [(3, .int x.1)] []) z9 := by
    exact t10_isEnough_b72 hF h hC
  exact lp_rule (Jh := fun (s : (Int32 × Int32 × Mem)) => J E X Q s.2.2 6 [(0, .ref (eA E 57)), (1, .int a1), (2, .int a2), (3, .int s.1), (4, .int s.2.1)] []) (C := fun (x : (Int32 × Mem)) => J E X Q x.2 72 [(3, .int x.1)] []) (fun s o h hC => t10_isEnough_L6 hF h hC) N ((1048575 : Int32), (0 : Int32), S) z9 hz9 hx
set_option maxHeartbeats 1000000 in
theorem c10_isEnough {E : En} {N : Nat} {a1 : Int32} {a2 : Int32} {S So : Mem} {ro : Int32} (h : f10_isEnough N a1 a2 S = some (ro, So)) : CT E yX10_isEnough cX10_isEnough 6 (some .boolean) 5 [.ref (eA E 57), .int a1, .int a2] S (some (.int ro)) So :=
  CT_of (by decide) (Nat.le_of_ble_eq_true rfl) (fun X hF => t10_isEnough hF h rfl)
def f10_fewest_L22 (N : Nat) (v1 : Int32) (v2 : Int32) (S : Mem) : Option ((Int32 × Mem) ⊕ ((Int32 × Mem) ⊕ (Mem))) :=
if (0 : Int32) < 0 ∨ 2 ≤ (0 : Int32).toNatClampNeg then none else
lt_ ((S 59).1 (0 : Int32).toNatClampNeg) fun x4 =>
if ((1 : Int32) <<< (x4 &&& 31)) ≤ v2 then
some (.inr (.inr (S)))
else
bnd (f10_part N v1 v2 v2 S) fun r5 S6 =>
bnp (f10_anyBad N S6) fun r7 =>
if r7 = 0 then
some (.inr (.inl (((1 : Int32), S6))))
else
lt_ (v2 + (1 : Int32)) fun x8 =>
some (.inl (x8, S6))
def f10_fewest_L58 (N : Nat) (v1 : Int32) (v2 : Int32) (S : Mem) : Option ((Int32 × Mem) ⊕ ((Int32 × Mem) ⊕ (Mem))) :=
if (0 : Int32) < 0 ∨ 2 ≤ (0 : Int32).toNatClampNeg then none else
lt_ ((S 59).1 (0 : Int32).toNatClampNeg) fun x10 =>
if ((1 : Int32) <<< (x10 &&& 31)) ≤ v2 then
some (.inr (.inr (S)))
else
bnd (f10_isEnough N v1 v2 S) fun r11 S12 =>
if r11 = 0 then
lt_ (v2 + (1 : Int32)) fun x13 =>
some (.inl (x13, S12))
else
some (.inr (.inl (((2 : Int32), S12))))
def f10_fewest_b87 (N : Nat) (S : Mem) : Option (Int32 × Mem) :=
some (((-9 : Int32), S))
def f10_fewest_b56 (N : Nat) (v1 : Int32) (S : Mem) : Option (Int32 × Mem) :=
bnp (lp N (fun s => f10_fewest_L58 N v1 s.1 s.2) ((0 : Int32), S)) fun z14 => Sum.elim (fun r => some (r)) (fun x => f10_fewest_b87 N x) z14
def f10_fewest (N : Nat) (a1 : Int32) (S : Mem) : Option (Int32 × Mem) :=
bnp (f10_isOne N a1 S) fun r1 =>
if r1 = 0 then
some (((-1 : Int32), S))
else
bnd (f10_isKnown N a1 S) fun r2 S3 =>
if r2 = 0 then
bnp (lp N (fun s => f10_fewest_L22 N a1 s.1 s.2) ((0 : Int32), S3)) fun z9 => Sum.elim (fun r => some (r)) (fun x => f10_fewest_b56 N a1 x) z9
else
some (((0 : Int32), S3))
set_option maxHeartbeats 1000000 in
theorem t10_fewest_L22 {E : En} {X : Cx} {Q : State → Prop} {N : Nat} {v1 : Int32} {v2 : Int32} {S : Mem} {o : ((Int32 × Mem) ⊕ ((Int32 × Mem) ⊕ (Mem)))} (hF : Fx E X cX10_fewest RX10 3 (some .int) 6) (h : f10_fewest_L22 N v1 v2 S = some o) (hC : Sum.elim (fun (s : (Int32 × Mem)) => J E X Q s.2 22 [(0, .ref (eA E 57)), (1, .int v1), (2, .int s.1)] []) (Sum.elim (fun (r : (Int32 × Mem)) => Q = RQ E X (some (.int r.1)) r.2) (fun (x : (Mem)) => J E X Q x 56 [(0, .ref (eA E 57)), (1, .int v1)] [])) o) : J E X Q S 22 [(0, .ref (eA E 57)), (1, .int v1), (2, .int v2)] [] := by
  unfold f10_fewest_L22 at h
  refine j_iload_n hF rfl 2 rfl dX10_fewest_22 ?_
  refine j_iconst (v := (1 : Int32)) hF (by decide) dX10_fewest_23 ?_
  refine j_aload_n hF rfl 0 rfl dX10_fewest_24 ?_
  refine gf10_3 hF (by decide) (s_57 E _) rfl bw_4_138 dX10_fewest_25 ?_
  refine j_iconst (v := (0 : Int32)) hF (by decide) dX10_fewest_28 ?_
  refine j_iald hF (by decide) (s_59 E) h dX10_fewest_29 (fun h => ?_)
  refine j_nmT h (fun x4 h => ?_)
  refine j_ishl hF dX10_fewest_30 ?_
  refine j_icmp_ge (tgt := 56) hF h (by decide) dX10_fewest_31 (fun h => ?_) (fun h => ?_)
  · obtain rfl := ret1 h
    refine j_sub (lv' := [(0, .ref (eA E 57)), (1, .int v1)]) hF [0, 1] rfl ?_
    exact hC
  · refine j_aload_n hF rfl 0 rfl dX10_fewest_34 ?_
    refine j_iload_n hF rfl 1 rfl dX10_fewest_35 ?_
    refine j_iload_n hF rfl 2 rfl dX10_fewest_36 ?_
    refine j_iload_n hF rfl 2 rfl dX10_fewest_37 ?_
    obtain ⟨r5, S6, hr5, h⟩ := bnd_some h
    refine j_callV_v (As := [.int v1, .int v2, .int v2]) (st := []) hF rfl mv_10_part (by decide) (s_57 E _) rfl bw_5_98 rfl (by decide) (Nat.le_of_ble_eq_true rfl) dX10_fewest_38 (c10_part hr5) ?_
    refine j_aload_n hF rfl 0 rfl dX10_fewest_41 ?_
    obtain ⟨r7, hr7, h⟩ := bnp_some h
    refine j_callV_i (As := []) (st := []) hF rfl mv_10_anyBad (by decide) (s_57 E _) rfl bw_5_102 rfl (by decide) (Nat.le_of_ble_eq_true rfl) dX10_fewest_42 (c10_anyBad hr7) ?_
    refine j_if_ne (tgt := 50) hF h (by decide) dX10_fewest_45 (fun h => ?_) (fun h => ?_)
    · refine j_iinc (v := (v2 + (1 : Int32))) (lv' := [(2, .int (v2 + (1 : Int32))), (0, .ref (eA E 57)), (1, .int v1)]) (q := 2) hF rfl (congrArg (fun z => v2 + z) (by decide)) (by decide) rfl dX10_fewest_50 ?_
      refine j_nmL h (fun x8 h => ?_)
      refine j_goto (tgt := 22) hF (by decide) dX10_fewest_53 ?_
      obtain rfl := ret1 h
      refine j_sub (lv' := [(0, .ref (eA E 57)), (1, .int v1), (2, .int x8)]) hF [1, 2, 0] rfl ?_
      exact hC
    · refine j_iconst (v := (1 : Int32)) hF (by decide) dX10_fewest_48 ?_
      obtain rfl := ret1 h
      exact j_iret hF hC dX10_fewest_49
set_option maxHeartbeats 1000000 in
theorem t10_fewest_L58 {E : En} {X : Cx} {Q : State → Prop} {N : Nat} {v1 : Int32} {v2 : Int32} {S : Mem} {o : ((Int32 × Mem) ⊕ ((Int32 × Mem) ⊕ (Mem)))} (hF : Fx E X cX10_fewest RX10 3 (some .int) 6) (h : f10_fewest_L58 N v1 v2 S = some o) (hC : Sum.elim (fun (s : (Int32 × Mem)) => J E X Q s.2 58 [(0, .ref (eA E 57)), (1, .int v1), (2, .int s.1)] []) (Sum.elim (fun (r : (Int32 × Mem)) => Q = RQ E X (some (.int r.1)) r.2) (fun (x : (Mem)) => J E X Q x 87 [] [])) o) : J E X Q S 58 [(0, .ref (eA E 57)), (1, .int v1), (2, .int v2)] [] := by
  unfold f10_fewest_L58 at h
  refine j_iload_n hF rfl 2 rfl dX10_fewest_58 ?_
  refine j_iconst (v := (1 : Int32)) hF (by decide) dX10_fewest_59 ?_
  refine j_aload_n hF rfl 0 rfl dX10_fewest_60 ?_
  refine gf10_3 hF (by decide) (s_57 E _) rfl bw_4_138 dX10_fewest_61 ?_
  refine j_iconst (v := (0 : Int32)) hF (by decide) dX10_fewest_64 ?_
  refine j_iald hF (by decide) (s_59 E) h dX10_fewest_65 (fun h => ?_)
  refine j_nmT h (fun x10 h => ?_)
  refine j_ishl hF dX10_fewest_66 ?_
  refine j_icmp_ge (tgt := 87) hF h (by decide) dX10_fewest_67 (fun h => ?_) (fun h => ?_)
  · obtain rfl := ret1 h
    refine j_sub (lv' := []) hF [] rfl ?_
    exact hC
  · refine j_aload_n hF rfl 0 rfl dX10_fewest_70 ?_
    refine j_iload_n hF rfl 1 rfl dX10_fewest_71 ?_
    refine j_iload_n hF rfl 2 rfl dX10_fewest_72 ?_
    obtain ⟨r11, S12, hr11, h⟩ := bnd_some h
    refine j_callV_i (As := [.int v1, .int v2]) (st := []) hF rfl mv_10_isEnough (by decide) (s_57 E _) rfl bw_5_106 rfl (by decide) (Nat.le_of_ble_eq_true rfl) dX10_fewest_73 (c10_isEnough hr11) ?_
    refine j_if_eq (tgt := 81) hF h (by decide) dX10_fewest_76 (fun h => ?_) (fun h => ?_)
    · refine j_iinc (v := (v2 + (1 : Int32))) (lv' := [(2, .int (v2 + (1 : Int32))), (0, .ref (eA E 57)), (1, .int v1)]) (q := 2) hF rfl (congrArg (fun z => v2 + z) (by decide)) (by decide) rfl dX10_fewest_81 ?_
      refine j_nmL h (fun x13 h => ?_)
      refine j_goto (tgt := 58) hF (by decide) dX10_fewest_84 ?_
      obtain rfl := ret1 h
      refine j_sub (lv' := [(0, .ref (eA E 57)), (1, .int v1), (2, .int x13)]) hF [1, 2, 0] rfl ?_
      exact hC
    · refine j_iconst (v := (2 : Int32)) hF (by decide) dX10_fewest_79 ?_
      obtain rfl := ret1 h
      exact j_iret hF hC dX10_fewest_80
set_option maxHeartbeats 1000000 in
theorem t10_fewest_b87 {E : En} {X : Cx} {Q : State → Prop} {N : Nat} {S : Mem} {o : (Int32 × Mem)} (hF : Fx E X cX10_fewest RX10 3 (some .int) 6) (h : f10_fewest_b87 N S = some o) (hC : Q = RQ E X (some (.int o.1)) o.2) : J E X Q S 87 [] [] := by
  unfold f10_fewest_b87 at h
  refine j_bipush (v := (-9 : Int32)) hF (by decide) dX10_fewest_87 ?_
  obtain rfl := ret1 h
  exact j_iret hF hC dX10_fewest_89
set_option maxHeartbeats 1000000 in
theorem t10_fewest_b56 {E : En} {X : Cx} {Q : State → Prop} {N : Nat} {v1 : Int32} {S : Mem} {o : (Int32 × Mem)} (hF : Fx E X cX10_fewest RX10 3 (some .int) 6) (h : f10_fewest_b56 N v1 S = some o) (hC : Q = RQ E X (some (.int o.1)) o.2) : J E X Q S 56 [(0, .ref (eA E 57)), (1, .int v1)] [] := by
  unfold f10_fewest_b56 at h
  refine j_iconst (v := (0 : Int32)) hF (by decide) dX10_fewest_56 ?_
  refine j_istore_n (lv' := [(2, .int (0 : Int32)), (0, .ref (eA E 57)), (1, .int v1)]) hF rfl (by decide) rfl dX10_fewest_57 ?_
  obtain ⟨z14, hz14, h⟩ := bnp_some h
  refine j_sub (lv' := [(0, .ref (eA E 57)), (1, .int v1), (2, .int (0 : Int32))]) hF [1, 2, 0] rfl ?_
  have hx : (Sum.elim (fun (r : (Int32 × Mem)) => Q = RQ E X (some (.int r.1)) r.2) (fun (x : (Mem)) => J E X Q x 87 [] [])) z14 := by
    cases z14 with
    | inl rr =>
      have h : some (rr) = some o := h
      obtain rfl := ret1 h
      exact hC
    | inr x =>
      have h : f10_fewest_b87 N x = some o := h
      exact t10_fewest_b87 hF h hC
  exact lp_rule (Jh := fun (s : (Int32 × Mem)) => J E X Q s.2 58 [(0, .ref (eA E 57)), (1, .int v1), (2, .int s.1)] []) (C := Sum.elim (fun (r : (Int32 × Mem)) => Q = RQ E X (some (.int r.1)) r.2) (fun (x : (Mem)) => J E X Q x 87 [] [])) (fun s o h hC => t10_fewest_L58 hF h hC) N ((0 : Int32), S) z14 hz14 hx
set_option maxHeartbeats 1000000 in
theorem t10_fewest {E : En} {X : Cx} {Q : State → Prop} {N : Nat} {a1 : Int32} {S : Mem} {o : (Int32 × Mem)} (hF : Fx E X cX10_fewest RX10 3 (some .int) 6) (h : f10_fewest N a1 S = some o) (hC : Q = RQ E X (some (.int o.1)) o.2) : J E X Q S 0 [(0, .ref (eA E 57)), (1, .int a1)] [] := by
  unfold f10_fewest at h
  refine j_aload_n hF rfl 0 rfl dX10_fewest_0 ?_
  refine j_iload_n hF rfl 1 rfl dX10_fewest_1 ?_
  obtain ⟨r1, hr1, h⟩ := bnp_some h
  refine j_callV_i (As := [.int a1]) (st := []) hF rfl mv_10_isOne (by decide) (s_57 E _) rfl bw_5_39 rfl (by decide) (Nat.le_of_ble_eq_true rfl) dX10_fewest_2 (c10_isOne hr1) ?_
  refine j_if_ne (tgt := 10) hF h (by decide) dX10_fewest_5 (fun h => ?_) (fun h => ?_)
  · refine j_aload_n hF rfl 0 rfl dX10_fewest_10 ?_
    refine j_iload_n hF rfl 1 rfl dX10_fewest_11 ?_
    obtain ⟨r2, S3, hr2, h⟩ := bnd_some h
    refine j_callV_i (As := [.int a1]) (st := []) hF rfl mv_10_isKnown (by decide) (s_57 E _) rfl bw_5_94 rfl (by decide) (Nat.le_of_ble_eq_true rfl) dX10_fewest_12 (c10_isKnown hr2) ?_
    refine j_if_eq (tgt := 20) hF h (by decide) dX10_fewest_15 (fun h => ?_) (fun h => ?_)
    · refine j_iconst (v := (0 : Int32)) hF (by decide) dX10_fewest_20 ?_
      refine j_istore_n (lv' := [(2, .int (0 : Int32)), (0, .ref (eA E 57)), (1, .int a1)]) hF rfl (by decide) rfl dX10_fewest_21 ?_
      obtain ⟨z9, hz9, h⟩ := bnp_some h
      refine j_sub (lv' := [(0, .ref (eA E 57)), (1, .int a1), (2, .int (0 : Int32))]) hF [1, 2, 0] rfl ?_
      have hx : (Sum.elim (fun (r : (Int32 × Mem)) => Q = RQ E X (some (.int r.1)) r.2) (fun (x : (Mem)) => J E X Q x 56 [(0, .ref (eA E 57)), (1, .int a1)] [])) z9 := by
        cases z9 with
        | inl rr =>
          have h : some (rr) = some o := h
          obtain rfl := ret1 h
          exact hC
        | inr x =>
          have h : f10_fewest_b56 N a1 x = some o := h
          exact t10_fewest_b56 hF h hC
      exact lp_rule (Jh := fun (s : (Int32 × Mem)) => J E X Q s.2 22 [(0, .ref (eA E 57)), (1, .int a1), (2, .int s.1)] []) (C := Sum.elim (fun (r : (Int32 × Mem)) => Q = RQ E X (some (.int r.1)) r.2) (fun (x : (Mem)) => J E X Q x 56 [(0, .ref (eA E 57)), (1, .int a1)] [])) (fun s o h hC => t10_fewest_L22 hF h hC) N ((0 : Int32), S3) z9 hz9 hx
    · refine j_iconst (v := (0 : Int32)) hF (by decide) dX10_fewest_18 ?_
      obtain rfl := ret1 h
      exact j_iret hF hC dX10_fewest_19
  · refine j_iconst (v := (-1 : Int32)) hF (by decide) dX10_fewest_8 ?_
    obtain rfl := ret1 h
    exact j_iret hF hC dX10_fewest_9
set_option maxHeartbeats 1000000 in
theorem c10_fewest {E : En} {N : Nat} {a1 : Int32} {S So : Mem} {ro : Int32} (h : f10_fewest N a1 S = some (ro, So)) : CT E yX10_fewest cX10_fewest 3 (some .int) 6 [.ref (eA E 57), .int a1] S (some (.int ro)) So :=
  CT_of (by decide) (Nat.le_of_ble_eq_true rfl) (fun X hF => t10_fewest hF h rfl)
def f10_laugh_b40 (N : Nat) (v1 : Int32) (v2 : Int32) (v3 : Int32) (S : Mem) : Option ((Int32 × Int32 × Mem) ⊕ (Int32 × Mem)) :=
lt_ (v3 + (1 : Int32)) fun x5 =>
some (.inl (v2, x5, S))
def f10_laugh_L14 (N : Nat) (v1 : Int32) (v2 : Int32) (v3 : Int32) (S : Mem) : Option ((Int32 × Int32 × Mem) ⊕ (Int32 × Mem)) :=
bnp (f10_worlds N S) fun r2 =>
if r2 ≤ v3 then
some (.inr (v2, S))
else
bnd (f10_canBe N v3 S) fun r3 S4 =>
if r3 = 0 then
f10_laugh_b40 N v1 v2 v3 S4
else
bnp (f10_laughIn N v1 S4) fun r6 =>
lt_ (v2 ||| ((1 : Int32) <<< (r6 &&& 31))) fun x7 =>
f10_laugh_b40 N v1 x7 v3 S4
def f10_laugh_b46 (N : Nat) (v2 : Int32) (S : Mem) : Option (Int32 × Mem) :=
if v2 = (1 : Int32) then
some (((0 : Int32), S))
else
if v2 = (2 : Int32) then
some (((1 : Int32), S))
else
some (((-9 : Int32), S))
def f10_laugh (N : Nat) (a1 : Int32) (S : Mem) : Option (Int32 × Mem) :=
bnp (f10_isLine N a1 S) fun r1 =>
if r1 = 0 then
some (((-1 : Int32), S))
else
bnp (lp N (fun s => f10_laugh_L14 N a1 s.1 s.2.1 s.2.2) ((0 : Int32), (0 : Int32), S)) fun z8 =>
f10_laugh_b46 N z8.1 z8.2
set_option maxHeartbeats 1000000 in
theorem t10_laugh_b40 {E : En} {X : Cx} {Q : State → Prop} {N : Nat} {v1 : Int32} {v2 : Int32} {v3 : Int32} {S : Mem} {o : ((Int32 × Int32 × Mem) ⊕ (Int32 × Mem))} (hF : Fx E X cX10_laugh RX10 4 (some .int) 4) (h : f10_laugh_b40 N v1 v2 v3 S = some o) (hC : Sum.elim (fun (s : (Int32 × Int32 × Mem)) => J E X Q s.2.2 14 [(0, .ref (eA E 57)), (1, .int v1), (2, .int s.1), (3, .int s.2.1)] []) (fun (x : (Int32 × Mem)) => J E X Q x.2 46 [(2, .int x.1)] []) o) : J E X Q S 40 [(0, .ref (eA E 57)), (1, .int v1), (2, .int v2), (3, .int v3)] [] := by
  unfold f10_laugh_b40 at h
  refine j_iinc (v := (v3 + (1 : Int32))) (lv' := [(3, .int (v3 + (1 : Int32))), (0, .ref (eA E 57)), (1, .int v1), (2, .int v2)]) (q := 3) hF rfl (congrArg (fun z => v3 + z) (by decide)) (by decide) rfl dX10_laugh_40 ?_
  refine j_nmL h (fun x5 h => ?_)
  refine j_goto (tgt := 14) hF (by decide) dX10_laugh_43 ?_
  obtain rfl := ret1 h
  refine j_sub (lv' := [(0, .ref (eA E 57)), (1, .int v1), (2, .int v2), (3, .int x5)]) hF [1, 2, 3, 0] rfl ?_
  exact hC
set_option maxHeartbeats 1000000 in
theorem t10_laugh_L14 {E : En} {X : Cx} {Q : State → Prop} {N : Nat} {v1 : Int32} {v2 : Int32} {v3 : Int32} {S : Mem} {o : ((Int32 × Int32 × Mem) ⊕ (Int32 × Mem))} (hF : Fx E X cX10_laugh RX10 4 (some .int) 4) (h : f10_laugh_L14 N v1 v2 v3 S = some o) (hC : Sum.elim (fun (s : (Int32 × Int32 × Mem)) => J E X Q s.2.2 14 [(0, .ref (eA E 57)), (1, .int v1), (2, .int s.1), (3, .int s.2.1)] []) (fun (x : (Int32 × Mem)) => J E X Q x.2 46 [(2, .int x.1)] []) o) : J E X Q S 14 [(0, .ref (eA E 57)), (1, .int v1), (2, .int v2), (3, .int v3)] [] := by
  unfold f10_laugh_L14 at h
  refine j_iload_n hF rfl 3 rfl dX10_laugh_14 ?_
  refine j_aload_n hF rfl 0 rfl dX10_laugh_15 ?_
  obtain ⟨r2, hr2, h⟩ := bnp_some h
  refine j_callV_i (As := []) (st := [.int v3]) hF rfl mv_10_worlds (by decide) (s_57 E _) rfl bw_5_47 rfl (by decide) (Nat.le_of_ble_eq_true rfl) dX10_laugh_16 (c10_worlds hr2) ?_
  refine j_icmp_ge (tgt := 46) hF h (by decide) dX10_laugh_19 (fun h => ?_) (fun h => ?_)
  · obtain rfl := ret1 h
    refine j_sub (lv' := [(2, .int v2)]) hF [2] rfl ?_
    exact hC
  · refine j_aload_n hF rfl 0 rfl dX10_laugh_22 ?_
    refine j_iload_n hF rfl 3 rfl dX10_laugh_23 ?_
    obtain ⟨r3, S4, hr3, h⟩ := bnd_some h
    refine j_callV_i (As := [.int v3]) (st := []) hF rfl mv_10_canBe (by decide) (s_57 E _) rfl bw_5_51 rfl (by decide) (Nat.le_of_ble_eq_true rfl) dX10_laugh_24 (c10_canBe hr3) ?_
    refine j_if_eq (tgt := 40) hF h (by decide) dX10_laugh_27 (fun h => ?_) (fun h => ?_)
    · exact t10_laugh_b40 hF h hC
    · refine j_iload_n hF rfl 2 rfl dX10_laugh_30 ?_
      refine j_iconst (v := (1 : Int32)) hF (by decide) dX10_laugh_31 ?_
      refine j_aload_n hF rfl 0 rfl dX10_laugh_32 ?_
      refine j_iload_n hF rfl 1 rfl dX10_laugh_33 ?_
      obtain ⟨r6, hr6, h⟩ := bnp_some h
      refine j_callV_i (As := [.int v1]) (st := [.int (1 : Int32), .int v2]) hF rfl mv_10_laughIn (by decide) (s_57 E _) rfl bw_5_63 rfl (by decide) (Nat.le_of_ble_eq_true rfl) dX10_laugh_34 (c10_laughIn hr6) ?_
      refine j_ishl hF dX10_laugh_37 ?_
      refine j_ior hF dX10_laugh_38 ?_
      refine j_istore_n (lv' := [(2, .int (v2 ||| ((1 : Int32) <<< (r6 &&& 31)))), (0, .ref (eA E 57)), (1, .int v1), (3, .int v3)]) hF rfl (by decide) rfl dX10_laugh_39 ?_
      refine j_nmL h (fun x7 h => ?_)
      refine j_sub (lv' := [(0, .ref (eA E 57)), (1, .int v1), (2, .int x7), (3, .int v3)]) hF [1, 2, 0, 3] rfl ?_
      exact t10_laugh_b40 hF h hC
set_option maxHeartbeats 1000000 in
theorem t10_laugh_b46 {E : En} {X : Cx} {Q : State → Prop} {N : Nat} {v2 : Int32} {S : Mem} {o : (Int32 × Mem)} (hF : Fx E X cX10_laugh RX10 4 (some .int) 4) (h : f10_laugh_b46 N v2 S = some o) (hC : Q = RQ E X (some (.int o.1)) o.2) : J E X Q S 46 [(2, .int v2)] [] := by
  unfold f10_laugh_b46 at h
  refine j_iload_n hF rfl 0 rfl dX10_laugh_46 ?_
  refine j_iconst (v := (1 : Int32)) hF (by decide) dX10_laugh_47 ?_
  refine j_icmp_ne (tgt := 55) hF h (by decide) dX10_laugh_48 (fun h => ?_) (fun h => ?_)
  · refine j_iload_n hF rfl 0 rfl dX10_laugh_55 ?_
    refine j_iconst (v := (2 : Int32)) hF (by decide) dX10_laugh_56 ?_
    refine j_icmp_ne (tgt := 64) hF h (by decide) dX10_laugh_57 (fun h => ?_) (fun h => ?_)
    · refine j_bipush (v := (-9 : Int32)) hF (by decide) dX10_laugh_64 ?_
      obtain rfl := ret1 h
      exact j_iret hF hC dX10_laugh_66
    · refine j_iconst (v := (1 : Int32)) hF (by decide) dX10_laugh_60 ?_
      refine j_goto (tgt := 66) hF (by decide) dX10_laugh_61 ?_
      obtain rfl := ret1 h
      exact j_iret hF hC dX10_laugh_66
  · refine j_iconst (v := (0 : Int32)) hF (by decide) dX10_laugh_51 ?_
    refine j_goto (tgt := 66) hF (by decide) dX10_laugh_52 ?_
    obtain rfl := ret1 h
    exact j_iret hF hC dX10_laugh_66
set_option maxHeartbeats 1000000 in
theorem t10_laugh {E : En} {X : Cx} {Q : State → Prop} {N : Nat} {a1 : Int32} {S : Mem} {o : (Int32 × Mem)} (hF : Fx E X cX10_laugh RX10 4 (some .int) 4) (h : f10_laugh N a1 S = some o) (hC : Q = RQ E X (some (.int o.1)) o.2) : J E X Q S 0 [(0, .ref (eA E 57)), (1, .int a1)] [] := by
  unfold f10_laugh at h
  refine j_aload_n hF rfl 0 rfl dX10_laugh_0 ?_
  refine j_iload_n hF rfl 1 rfl dX10_laugh_1 ?_
  obtain ⟨r1, hr1, h⟩ := bnp_some h
  refine j_callV_i (As := [.int a1]) (st := []) hF rfl mv_10_isLine (by decide) (s_57 E _) rfl bw_5_27 rfl (by decide) (Nat.le_of_ble_eq_true rfl) dX10_laugh_2 (c10_isLine hr1) ?_
  refine j_if_ne (tgt := 10) hF h (by decide) dX10_laugh_5 (fun h => ?_) (fun h => ?_)
  · refine j_iconst (v := (0 : Int32)) hF (by decide) dX10_laugh_10 ?_
    refine j_istore_n (lv' := [(2, .int (0 : Int32)), (0, .ref (eA E 57)), (1, .int a1)]) hF rfl (by decide) rfl dX10_laugh_11 ?_
    refine j_iconst (v := (0 : Int32)) hF (by decide) dX10_laugh_12 ?_
    refine j_istore_n (lv' := [(3, .int (0 : Int32)), (2, .int (0 : Int32)), (0, .ref (eA E 57)), (1, .int a1)]) hF rfl (by decide) rfl dX10_laugh_13 ?_
    obtain ⟨z8, hz8, h⟩ := bnp_some h
    refine j_sub (lv' := [(0, .ref (eA E 57)), (1, .int a1), (2, .int (0 : Int32)), (3, .int (0 : Int32))]) hF [2, 3, 1, 0] rfl ?_
    have hx : (fun (x : (Int32 × Mem)) => J E X Q x.2 46 [(2, .int x.1)] []) z8 := by
      exact t10_laugh_b46 hF h hC
    exact lp_rule (Jh := fun (s : (Int32 × Int32 × Mem)) => J E X Q s.2.2 14 [(0, .ref (eA E 57)), (1, .int a1), (2, .int s.1), (3, .int s.2.1)] []) (C := fun (x : (Int32 × Mem)) => J E X Q x.2 46 [(2, .int x.1)] []) (fun s o h hC => t10_laugh_L14 hF h hC) N ((0 : Int32), (0 : Int32), S) z8 hz8 hx
  · refine j_iconst (v := (-1 : Int32)) hF (by decide) dX10_laugh_8 ?_
    obtain rfl := ret1 h
    exact j_iret hF hC dX10_laugh_9
set_option maxHeartbeats 1000000 in
theorem c10_laugh {E : En} {N : Nat} {a1 : Int32} {S So : Mem} {ro : Int32} (h : f10_laugh N a1 S = some (ro, So)) : CT E yX10_laugh cX10_laugh 4 (some .int) 4 [.ref (eA E 57), .int a1] S (some (.int ro)) So :=
  CT_of (by decide) (Nat.le_of_ble_eq_true rfl) (fun X hF => t10_laugh hF h rfl)
