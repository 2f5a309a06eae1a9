def f8_onlyWeightOf_b37 (N : Nat) (v1 : Int32) (v2 : Int32) (S : Mem) : Option ((Int32) ⊕ (Int32 ⊕ Unit)) :=
lt_ (v2 + (1 : Int32)) fun x1 =>
some (.inl (x1))
def f8_onlyWeightOf_L2 (N : Nat) (v1 : Int32) (v2 : Int32) (S : Mem) : Option ((Int32) ⊕ (Int32 ⊕ Unit)) :=
if (9 : Int32) < v2 then
some (.inr (.inr ()))
else
if ((S 39).1 8) ≤ 0 then
f8_onlyWeightOf_b37 N v1 v2 S
else
bnp (f5_get N 44 40 ((v1 * (10 : Int32)) + v2) S) fun r2 =>
if r2 = ((S 39).1 8) then
some (.inr (.inl (v2)))
else
f8_onlyWeightOf_b37 N v1 v2 S
def f8_onlyWeightOf_b43 (N : Nat) (S : Mem) : Option Int32 :=
some ((-9 : Int32))
def f8_onlyWeightOf (N : Nat) (a1 : Int32) (S : Mem) : Option Int32 :=
bnp (lp N (fun s => f8_onlyWeightOf_L2 N a1 s S) ((0 : Int32))) fun z3 => Sum.elim (fun r => some (r)) (fun x => f8_onlyWeightOf_b43 N S) z3
set_option maxHeartbeats 1000000 in
theorem t8_onlyWeightOf_b37 {E : En} {X : Cx} {Q : State → Prop} {N : Nat} {v1 : Int32} {v2 : Int32} {S : Mem} {o : ((Int32) ⊕ (Int32 ⊕ Unit))} (hF : Fx E X cX8_onlyWeightOf RX8 3 (some .int) 1) (h : f8_onlyWeightOf_b37 N v1 v2 S = some o) (hC : Sum.elim (fun (s : (Int32)) => J E X Q S 2 [(0, .ref (eA E 39)), (1, .int v1), (2, .int s)] []) (Sum.elim (fun (r : Int32) => Q = RQ E X (some (.int r)) S) (fun (x : Unit) => J E X Q S 43 [] [])) o) : J E X Q S 37 [(0, .ref (eA E 39)), (1, .int v1), (2, .int v2)] [] := by
  unfold f8_onlyWeightOf_b37 at h
  refine j_iinc (v := (v2 + (1 : Int32))) (lv' := [(2, .int (v2 + (1 : Int32))), (0, .ref (eA E 39)), (1, .int v1)]) (q := 2) hF rfl (congrArg (fun z => v2 + z) (by decide)) (by decide) rfl dX8_onlyWeightOf_37 ?_
  refine j_nmL h (fun x1 h => ?_)
  refine j_goto (tgt := 2) hF (by decide) dX8_onlyWeightOf_40 ?_
  obtain rfl := ret1 h
  refine j_sub (lv' := [(0, .ref (eA E 39)), (1, .int v1), (2, .int x1)]) hF [1, 2, 0] rfl ?_
  exact hC
set_option maxHeartbeats 1000000 in
theorem t8_onlyWeightOf_L2 {E : En} {X : Cx} {Q : State → Prop} {N : Nat} {v1 : Int32} {v2 : Int32} {S : Mem} {o : ((Int32) ⊕ (Int32 ⊕ Unit))} (hF : Fx E X cX8_onlyWeightOf RX8 3 (some .int) 1) (h : f8_onlyWeightOf_L2 N v1 v2 S = some o) (hC : Sum.elim (fun (s : (Int32)) => J E X Q S 2 [(0, .ref (eA E 39)), (1, .int v1), (2, .int s)] []) (Sum.elim (fun (r : Int32) => Q = RQ E X (some (.int r)) S) (fun (x : Unit) => J E X Q S 43 [] [])) o) : J E X Q S 2 [(0, .ref (eA E 39)), (1, .int v1), (2, .int v2)] [] := by
  unfold f8_onlyWeightOf_L2 at h
  refine j_iload_n hF rfl 2 rfl dX8_onlyWeightOf_2 ?_
  refine j_bipush (v := (9 : Int32)) hF (by decide) dX8_onlyWeightOf_3 ?_
  refine j_icmp_gt (tgt := 43) hF h (by decide) dX8_onlyWeightOf_5 (fun h => ?_) (fun h => ?_)
  · obtain rfl := ret1 h
    refine j_sub (lv' := []) hF [] rfl ?_
    exact hC
  · refine j_aload_n hF rfl 0 rfl dX8_onlyWeightOf_8 ?_
    refine gf8_8 hF (by decide) (s_39 E _) rfl bw_1_175 dX8_onlyWeightOf_9 ?_
    refine j_if_le (tgt := 37) hF h (by decide) dX8_onlyWeightOf_12 (fun h => ?_) (fun h => ?_)
    · exact t8_onlyWeightOf_b37 hF h hC
    · refine j_aload_n hF rfl 0 rfl dX8_onlyWeightOf_15 ?_
      refine gf8_4 hF (by decide) (s_39 E _) rfl bw_1_171 dX8_onlyWeightOf_16 ?_
      refine j_iload_n hF rfl 1 rfl dX8_onlyWeightOf_19 ?_
      refine j_bipush (v := (10 : Int32)) hF (by decide) dX8_onlyWeightOf_20 ?_
      refine j_imul hF dX8_onlyWeightOf_22 ?_
      refine j_iload_n hF rfl 2 rfl dX8_onlyWeightOf_23 ?_
      refine j_iadd hF dX8_onlyWeightOf_24 ?_
      obtain ⟨r2, hr2, h⟩ := bnp_some h
      refine j_callV_i (As := [.int ((v1 * (10 : Int32)) + v2)]) (st := []) hF rfl mv_5_get (by decide) (s_44 E _) rfl bw_3_101 rfl (by decide) (Nat.le_of_ble_eq_true rfl) dX8_onlyWeightOf_25 (c5_get (ra_44 E) hr2) ?_
      refine j_aload_n hF rfl 0 rfl dX8_onlyWeightOf_28 ?_
      refine gf8_8 hF (by decide) (s_39 E _) rfl bw_1_175 dX8_onlyWeightOf_29 ?_
      refine j_icmp_ne (tgt := 37) hF h (by decide) dX8_onlyWeightOf_32 (fun h => ?_) (fun h => ?_)
      · exact t8_onlyWeightOf_b37 hF h hC
      · refine j_iload_n hF rfl 2 rfl dX8_onlyWeightOf_35 ?_
        obtain rfl := ret1 h
        exact j_iret hF hC dX8_onlyWeightOf_36
set_option maxHeartbeats 1000000 in
theorem t8_onlyWeightOf_b43 {E : En} {X : Cx} {Q : State → Prop} {N : Nat} {S : Mem} {o : Int32} (hF : Fx E X cX8_onlyWeightOf RX8 3 (some .int) 1) (h : f8_onlyWeightOf_b43 N S = some o) (hC : Q = RQ E X (some (.int o)) S) : J E X Q S 43 [] [] := by
  unfold f8_onlyWeightOf_b43 at h
  refine j_bipush (v := (-9 : Int32)) hF (by decide) dX8_onlyWeightOf_43 ?_
  obtain rfl := ret1 h
  exact j_iret hF hC dX8_onlyWeightOf_45
set_option maxHeartbeats 1000000 in
theorem t8_onlyWeightOf {E : En} {X : Cx} {Q : State → Prop} {N : Nat} {a1 : Int32} {S : Mem} {o : Int32} (hF : Fx E X cX8_onlyWeightOf RX8 3 (some .int) 1) (h : f8_onlyWeightOf N a1 S = some o) (hC : Q = RQ E X (some (.int o)) S) : J E X Q S 0 [(0, .ref (eA E 39)), (1, .int a1)] [] := by
  unfold f8_onlyWeightOf at h
  refine j_iconst (v := (0 : Int32)) hF (by decide) dX8_onlyWeightOf_0 ?_
  refine j_istore_n (lv' := [(2, .int (0 : Int32)), (0, .ref (eA E 39)), (1, .int a1)]) hF rfl (by decide) rfl dX8_onlyWeightOf_1 ?_
  obtain ⟨z3, hz3, h⟩ := bnp_some h
  refine j_sub (lv' := [(0, .ref (eA E 39)), (1, .int a1), (2, .int (0 : Int32))]) hF [1, 2, 0] rfl ?_
  have hx : (Sum.elim (fun (r : Int32) => Q = RQ E X (some (.int r)) S) (fun (x : Unit) => J E X Q S 43 [] [])) z3 := by
    cases z3 with
    | inl rr =>
      have h : some (rr) = some o := h
      obtain rfl := ret1 h
      exact hC
    | inr x =>
      have h : f8_onlyWeightOf_b43 N S = some o := h
      exact t8_onlyWeightOf_b43 hF h hC
  exact lp_rule (Jh := fun (s : (Int32)) => J E X Q S 2 [(0, .ref (eA E 39)), (1, .int a1), (2, .int s)] []) (C := Sum.elim (fun (r : Int32) => Q = RQ E X (some (.int r)) S) (fun (x : Unit) => J E X Q S 43 [] [])) (fun s o h hC => t8_onlyWeightOf_L2 hF h hC) N ((0 : Int32)) z3 hz3 hx
set_option maxHeartbeats 1000000 in
theorem c8_onlyWeightOf {E : En} {N : Nat} {a1 : Int32} {S : Mem} {ro : Int32} (h : f8_onlyWeightOf N a1 S = some ro) : CT E yX8_onlyWeightOf cX8_onlyWeightOf 3 (some .int) 1 [.ref (eA E 39), .int a1] S (some (.int ro)) S :=
  CT_of (by decide) (Nat.le_of_ble_eq_true rfl) (fun X hF => t8_onlyWeightOf hF h rfl)
def f9_sure (N : Nat) (a1 : Int32) (S : Mem) : Option (Int32 × Mem) :=
bnp (f9_isItem N a1 S) fun r1 =>
if r1 = 0 then
some (((-1 : Int32), S))
else
bnd (f9_known N S) fun r2 S3 =>
bnp (f8_onlyWeightOf N a1 S3) fun r4 =>
some ((r4, S3))
set_option maxHeartbeats 1000000 in
theorem t9_sure {E : En} {X : Cx} {Q : State → Prop} {N : Nat} {a1 : Int32} {S : Mem} {o : (Int32 × Mem)} (hF : Fx E X cX9_sure RX9 2 (some .int) 6) (h : f9_sure N a1 S = some o) (hC : Q = RQ E X (some (.int o.1)) o.2) : J E X Q S 0 [(0, .ref (eA E 0)), (1, .int a1)] [] := by
  unfold f9_sure at h
  refine j_aload_n hF rfl 0 rfl dX9_sure_0 ?_
  refine j_iload_n hF rfl 1 rfl dX9_sure_1 ?_
  obtain ⟨r1, hr1, h⟩ := bnp_some h
  refine j_callV_i (As := [.int a1]) (st := []) hF rfl mv_9_isItem (by decide) (s_0 E _) rfl bw_2_214 rfl (by decide) (Nat.le_of_ble_eq_true rfl) dX9_sure_2 (c9_isItem hr1) ?_
  refine j_if_eq (tgt := 19) hF h (by decide) dX9_sure_5 (fun h => ?_) (fun h => ?_)
  · refine j_iconst (v := (-1 : Int32)) hF (by decide) dX9_sure_19 ?_
    obtain rfl := ret1 h
    exact j_iret hF hC dX9_sure_20
  · refine j_aload_n hF rfl 0 rfl dX9_sure_8 ?_
    obtain ⟨r2, S3, hr2, h⟩ := bnd_some h
    refine j_callV_r (As := []) (st := []) hF rfl mv_9_known (by decide) (s_0 E _) rfl bw_3_64 rfl (by decide) (Nat.le_of_ble_eq_true rfl) dX9_sure_9 (c9_known hr2) ?_
    refine j_iload_n hF rfl 1 rfl dX9_sure_12 ?_
    obtain ⟨r4, hr4, h⟩ := bnp_some h
    refine j_callV_i (As := [.int a1]) (st := []) hF rfl mv_8_onlyWeightOf (by decide) (s_39 E _) rfl bw_3_144 rfl (by decide) (Nat.le_of_ble_eq_true rfl) dX9_sure_13 (c8_onlyWeightOf hr4) ?_
    refine j_goto (tgt := 20) hF (by decide) dX9_sure_16 ?_
    obtain rfl := ret1 h
    exact j_iret hF hC dX9_sure_20
set_option maxHeartbeats 1000000 in
theorem c9_sure {E : En} {N : Nat} {a1 : Int32} {S So : Mem} {ro : Int32} (h : f9_sure N a1 S = some (ro, So)) : CT E yX9_sure cX9_sure 2 (some .int) 6 [.ref (eA E 0), .int a1] S (some (.int ro)) So :=
  CT_of (by decide) (Nat.le_of_ble_eq_true rfl) (fun X hF => t9_sure hF h rfl)
def f8_everFalse (N : Nat) (S : Mem) : Option Int32 :=
some (((S 39).1 10))
set_option maxHeartbeats 1000000 in
theorem t8_everFalse {E : En} {X : Cx} {Q : State → Prop} {N : Nat} {S : Mem} {o : Int32} (hF : Fx E X cX8_everFalse RX8 1 (some .int) 0) (h : f8_everFalse N S = some o) (hC : Q = RQ E X (some (.int o)) S) : J E X Q S 0 [(0, .ref (eA E 39))] [] := by
  unfold f8_everFalse at h
  refine j_aload_n hF rfl 0 rfl dX8_everFalse_0 ?_
  refine gf8_10 hF (by decide) (s_39 E _) rfl bw_1_177 dX8_everFalse_1 ?_
  obtain rfl := ret1 h
  exact j_iret hF hC dX8_everFalse_4
set_option maxHeartbeats 1000000 in
theorem c8_everFalse {E : En} {N : Nat} {S : Mem} {ro : Int32} (h : f8_everFalse N S = some ro) : CT E yX8_everFalse cX8_everFalse 1 (some .int) 0 [.ref (eA E 39)] S (some (.int ro)) S :=
  CT_of (by decide) (Nat.le_of_ble_eq_true rfl) (fun X hF => t8_everFalse hF h rfl)
def f8_fewestFalse (N : Nat) (S : Mem) : Option Int32 :=
some (((S 39).1 9))
set_option maxHeartbeats 1000000 in
theorem t8_fewestFalse {E : En} {X : Cx} {Q : State → Prop} {N : Nat} {S : Mem} {o : Int32} (hF : Fx E X cX8_fewestFalse RX8 1 (some .int) 0) (h : f8_fewestFalse N S = some o) (hC : Q = RQ E X (some (.int o)) S) : J E X Q S 0 [(0, .ref (eA E 39))] [] := by
  unfold f8_fewestFalse at h
  refine j_aload_n hF rfl 0 rfl dX8_fewestFalse_0 ?_
  refine gf8_9 hF (by decide) (s_39 E _) rfl bw_1_176 dX8_fewestFalse_1 ?_
  obtain rfl := ret1 h
  exact j_iret hF hC dX8_fewestFalse_4
set_option maxHeartbeats 1000000 in
theorem c8_fewestFalse {E : En} {N : Nat} {S : Mem} {ro : Int32} (h : f8_fewestFalse N S = some ro) : CT E yX8_fewestFalse cX8_fewestFalse 1 (some .int) 0 [.ref (eA E 39)] S (some (.int ro)) S :=
  CT_of (by decide) (Nat.le_of_ble_eq_true rfl) (fun X hF => t8_fewestFalse hF h rfl)
def f9_wrong (N : Nat) (a1 : Int32) (S : Mem) : Option (Int32 × Mem) :=
bnp (f9_isBetween N a1 (0 : Int32) (1 : Int32) S) fun r1 =>
if r1 = 0 then
some (((-1 : Int32), S))
else
if a1 = 0 then
bnd (f9_known N S) fun r5 S6 =>
bnp (f8_fewestFalse N S6) fun r7 =>
some ((r7, S6))
else
bnd (f9_known N S) fun r2 S3 =>
bnp (f8_everFalse N S3) fun r4 =>
some ((r4, S3))
set_option maxHeartbeats 1000000 in
theorem t9_wrong {E : En} {X : Cx} {Q : State → Prop} {N : Nat} {a1 : Int32} {S : Mem} {o : (Int32 × Mem)} (hF : Fx E X cX9_wrong RX9 2 (some .int) 6) (h : f9_wrong N a1 S = some o) (hC : Q = RQ E X (some (.int o.1)) o.2) : J E X Q S 0 [(0, .ref (eA E 0)), (1, .int a1)] [] := by
  unfold f9_wrong at h
  refine j_iload_n hF rfl 1 rfl dX9_wrong_0 ?_
  refine j_iconst (v := (0 : Int32)) hF (by decide) dX9_wrong_1 ?_
  refine j_iconst (v := (1 : Int32)) hF (by decide) dX9_wrong_2 ?_
  obtain ⟨r1, hr1, h⟩ := bnp_some h
  refine j_callS_i (As := [.int a1, .int (0 : Int32), .int (1 : Int32)]) (st := []) hF rfl mv_9_isBetween bw_2_219 rfl (by decide) (Nat.le_of_ble_eq_true rfl) dX9_wrong_3 (c9_isBetween hr1) ?_
  refine j_if_ne (tgt := 11) hF h (by decide) dX9_wrong_6 (fun h => ?_) (fun h => ?_)
  · refine j_iload_n hF rfl 1 rfl dX9_wrong_11 ?_
    refine j_if_ne (tgt := 25) hF h (by decide) dX9_wrong_12 (fun h => ?_) (fun h => ?_)
    · refine j_aload_n hF rfl 0 rfl dX9_wrong_25 ?_
      obtain ⟨r2, S3, hr2, h⟩ := bnd_some h
      refine j_callV_r (As := []) (st := []) hF rfl mv_9_known (by decide) (s_0 E _) rfl bw_3_64 rfl (by decide) (Nat.le_of_ble_eq_true rfl) dX9_wrong_26 (c9_known hr2) ?_
      obtain ⟨r4, hr4, h⟩ := bnp_some h
      refine j_callV_i (As := []) (st := []) hF rfl mv_8_everFalse (by decide) (s_39 E _) rfl bw_3_156 rfl (by decide) (Nat.le_of_ble_eq_true rfl) dX9_wrong_29 (c8_everFalse hr4) ?_
      obtain rfl := ret1 h
      exact j_iret hF hC dX9_wrong_32
    · refine j_aload_n hF rfl 0 rfl dX9_wrong_15 ?_
      obtain ⟨r5, S6, hr5, h⟩ := bnd_some h
      refine j_callV_r (As := []) (st := []) hF rfl mv_9_known (by decide) (s_0 E _) rfl bw_3_64 rfl (by decide) (Nat.le_of_ble_eq_true rfl) dX9_wrong_16 (c9_known hr5) ?_
      obtain ⟨r7, hr7, h⟩ := bnp_some h
      refine j_callV_i (As := []) (st := []) hF rfl mv_8_fewestFalse (by decide) (s_39 E _) rfl bw_3_152 rfl (by decide) (Nat.le_of_ble_eq_true rfl) dX9_wrong_19 (c8_fewestFalse hr7) ?_
      refine j_goto (tgt := 32) hF (by decide) dX9_wrong_22 ?_
      obtain rfl := ret1 h
      exact j_iret hF hC dX9_wrong_32
  · refine j_iconst (v := (-1 : Int32)) hF (by decide) dX9_wrong_9 ?_
    obtain rfl := ret1 h
    exact j_iret hF hC dX9_wrong_10
set_option maxHeartbeats 1000000 in
theorem c9_wrong {E : En} {N : Nat} {a1 : Int32} {S So : Mem} {ro : Int32} (h : f9_wrong N a1 S = some (ro, So)) : CT E yX9_wrong cX9_wrong 2 (some .int) 6 [.ref (eA E 0), .int a1] S (some (.int ro)) So :=
  CT_of (by decide) (Nat.le_of_ble_eq_true rfl) (fun X hF => t9_wrong hF h rfl)
def f8_leftAfter_b52 (N : Nat) (w0 : Int32) (S : Mem) : Option ((Int32) ⊕ (Int32 ⊕ Unit)) :=
some (.inl (w0))
def f8_leftAfter_L4 (N : Nat) (v2 : Int32) (S : Mem) : Option ((Int32) ⊕ (Int32 ⊕ Unit)) :=
if (10000 : Int32) ≤ v2 then
some (.inr (.inr ()))
else
bnp (f5_get N 42 313 (v2 >>> ((5 : Int32) &&& 31)) S) fun r2 =>
lt_ (r2.toUInt32 >>> ((v2 &&& (31 : Int32)).toUInt32 &&& Int32.toUInt32 31)).toInt32 fun x3 =>
if (x3 &&& (1 : Int32)) = (1 : Int32) then
some (.inr (.inl (v2)))
else
if x3 = 0 then
f8_leftAfter_b52 N ((v2 ||| (31 : Int32)) + (1 : Int32)) S
else
f8_leftAfter_b52 N (v2 + (1 : Int32)) S
def f8_leftAfter_b56 (N : Nat) (S : Mem) : Option Int32 :=
some ((10000 : Int32))
def f8_leftAfter (N : Nat) (a1 : Int32) (S : Mem) : Option Int32 :=
lt_ (a1 + (1 : Int32)) fun x1 =>
bnp (lp N (fun s => f8_leftAfter_L4 N s S) (x1)) fun z4 => Sum.elim (fun r => some (r)) (fun x => f8_leftAfter_b56 N S) z4
set_option maxHeartbeats 1000000 in
theorem t8_leftAfter_b52 {E : En} {X : Cx} {Q : State → Prop} {N : Nat} {w0 : Int32} {S : Mem} {o : ((Int32) ⊕ (Int32 ⊕ Unit))} (hF : Fx E X cX8_leftAfter RX8 4 (some .int) 1) (h : f8_leftAfter_b52 N w0 S = some o) (hC : Sum.elim (fun (s : (Int32)) => J E X Q S 4 [(0, .ref (eA E 39)), (2, .int s)] []) (Sum.elim (fun (r : Int32) => Q = RQ E X (some (.int r)) S) (fun (x : Unit) => J E X Q S 56 [] [])) o) : J E X Q S 52 [(0, .ref (eA E 39))] [.int w0] := by
  unfold f8_leftAfter_b52 at h
  refine j_istore_n (lv' := [(2, .int w0), (0, .ref (eA E 39))]) hF rfl (by decide) rfl dX8_leftAfter_52 ?_
  refine j_goto (tgt := 4) hF (by decide) dX8_leftAfter_53 ?_
  obtain rfl := ret1 h
  refine j_sub (lv' := [(0, .ref (eA E 39)), (2, .int w0)]) hF [1, 0] rfl ?_
  exact hC
set_option maxHeartbeats 1000000 in
theorem t8_leftAfter_L4 {E : En} {X : Cx} {Q : State → Prop} {N : Nat} {v2 : Int32} {S : Mem} {o : ((Int32) ⊕ (Int32 ⊕ Unit))} (hF : Fx E X cX8_leftAfter RX8 4 (some .int) 1) (h : f8_leftAfter_L4 N v2 S = some o) (hC : Sum.elim (fun (s : (Int32)) => J E X Q S 4 [(0, .ref (eA E 39)), (2, .int s)] []) (Sum.elim (fun (r : Int32) => Q = RQ E X (some (.int r)) S) (fun (x : Unit) => J E X Q S 56 [] [])) o) : J E X Q S 4 [(0, .ref (eA E 39)), (2, .int v2)] [] := by
  unfold f8_leftAfter_L4 at h
  refine j_iload_n hF rfl 1 rfl dX8_leftAfter_4 ?_
  refine j_sipush (v := (10000 : Int32)) hF (by decide) dX8_leftAfter_5 ?_
  refine j_icmp_ge (tgt := 56) hF h (by decide) dX8_leftAfter_8 (fun h => ?_) (fun h => ?_)
  · obtain rfl := ret1 h
    refine j_sub (lv' := []) hF [] rfl ?_
    exact hC
  · refine j_aload_n hF rfl 0 rfl dX8_leftAfter_11 ?_
    refine gf8_3 hF (by decide) (s_39 E _) rfl bw_1_170 dX8_leftAfter_12 ?_
    refine j_iload_n hF rfl 1 rfl dX8_leftAfter_15 ?_
    refine j_iconst (v := (5 : Int32)) hF (by decide) dX8_leftAfter_16 ?_
    refine j_ishr hF dX8_leftAfter_17 ?_
    obtain ⟨r2, hr2, h⟩ := bnp_some h
    refine j_callV_i (As := [.int (v2 >>> ((5 : Int32) &&& 31))]) (st := []) hF rfl mv_5_get (by decide) (s_42 E _) rfl bw_3_101 rfl (by decide) (Nat.le_of_ble_eq_true rfl) dX8_leftAfter_18 (c5_get (ra_42 E) hr2) ?_
    refine j_iload_n hF rfl 1 rfl dX8_leftAfter_21 ?_
    refine j_bipush (v := (31 : Int32)) hF (by decide) dX8_leftAfter_22 ?_
    refine j_iand hF dX8_leftAfter_24 ?_
    refine j_iushr hF dX8_leftAfter_25 ?_
    refine j_istore_n (lv' := [(3, .int (r2.toUInt32 >>> ((v2 &&& (31 : Int32)).toUInt32 &&& Int32.toUInt32 31)).toInt32), (0, .ref (eA E 39)), (2, .int v2)]) hF rfl (by decide) rfl dX8_leftAfter_26 ?_
    refine j_nmL h (fun x3 h => ?_)
    refine j_iload_n hF rfl 0 rfl dX8_leftAfter_27 ?_
    refine j_iconst (v := (1 : Int32)) hF (by decide) dX8_leftAfter_28 ?_
    refine j_iand hF dX8_leftAfter_29 ?_
    refine j_iconst (v := (1 : Int32)) hF (by decide) dX8_leftAfter_30 ?_
    refine j_icmp_ne (tgt := 36) hF h (by decide) dX8_leftAfter_31 (fun h => ?_) (fun h => ?_)
    · refine j_iload_n hF rfl 0 rfl dX8_leftAfter_36 ?_
      refine j_if_ne (tgt := 49) hF h (by decide) dX8_leftAfter_37 (fun h => ?_) (fun h => ?_)
      · refine j_iload_n hF rfl 2 rfl dX8_leftAfter_49 ?_
        refine j_iconst (v := (1 : Int32)) hF (by decide) dX8_leftAfter_50 ?_
        refine j_iadd hF dX8_leftAfter_51 ?_
        refine j_sub (lv' := [(0, .ref (eA E 39))]) hF [1] rfl ?_
        exact t8_leftAfter_b52 hF h hC
      · refine j_iload_n hF rfl 2 rfl dX8_leftAfter_40 ?_
        refine j_bipush (v := (31 : Int32)) hF (by decide) dX8_leftAfter_41 ?_
        refine j_ior hF dX8_leftAfter_43 ?_
        refine j_iconst (v := (1 : Int32)) hF (by decide) dX8_leftAfter_44 ?_
        refine j_iadd hF dX8_leftAfter_45 ?_
        refine j_goto (tgt := 52) hF (by decide) dX8_leftAfter_46 ?_
        refine j_sub (lv' := [(0, .ref (eA E 39))]) hF [1] rfl ?_
        exact t8_leftAfter_b52 hF h hC
    · refine j_iload_n hF rfl 2 rfl dX8_leftAfter_34 ?_
      obtain rfl := ret1 h
      exact j_iret hF hC dX8_leftAfter_35
set_option maxHeartbeats 1000000 in
theorem t8_leftAfter_b56 {E : En} {X : Cx} {Q : State → Prop} {N : Nat} {S : Mem} {o : Int32} (hF : Fx E X cX8_leftAfter RX8 4 (some .int) 1) (h : f8_leftAfter_b56 N S = some o) (hC : Q = RQ E X (some (.int o)) S) : J E X Q S 56 [] [] := by
  unfold f8_leftAfter_b56 at h
  refine j_sipush (v := (10000 : Int32)) hF (by decide) dX8_leftAfter_56 ?_
  obtain rfl := ret1 h
  exact j_iret hF hC dX8_leftAfter_59
set_option maxHeartbeats 1000000 in
theorem t8_leftAfter {E : En} {X : Cx} {Q : State → Prop} {N : Nat} {a1 : Int32} {S : Mem} {o : Int32} (hF : Fx E X cX8_leftAfter RX8 4 (some .int) 1) (h : f8_leftAfter N a1 S = some o) (hC : Q = RQ E X (some (.int o)) S) : J E X Q S 0 [(0, .ref (eA E 39)), (1, .int a1)] [] := by
  unfold f8_leftAfter at h
  refine j_iload_n hF rfl 1 rfl dX8_leftAfter_0 ?_
  refine j_iconst (v := (1 : Int32)) hF (by decide) dX8_leftAfter_1 ?_
  refine j_iadd hF dX8_leftAfter_2 ?_
  refine j_istore_n (lv' := [(2, .int (a1 + (1 : Int32))), (0, .ref (eA E 39)), (1, .int a1)]) hF rfl (by decide) rfl dX8_leftAfter_3 ?_
  refine j_nmL h (fun x1 h => ?_)
  obtain ⟨z4, hz4, h⟩ := bnp_some h
  refine j_sub (lv' := [(0, .ref (eA E 39)), (2, .int x1)]) hF [1, 0] rfl ?_
  have hx : (Sum.elim (fun (r : Int32) => Q = RQ E X (some (.int r)) S) (fun (x : Unit) => J E X Q S 56 [] [])) z4 := by
    cases z4 with
    | inl rr =>
      have h : some (rr) = some o := h
      obtain rfl := ret1 h
      exact hC
    | inr x =>
      have h : f8_leftAfter_b56 N S = some o := h
      exact t8_leftAfter_b56 hF h hC
  exact lp_rule (Jh := fun (s : (Int32)) => J E X Q S 4 [(0, .ref (eA E 39)), (2, .int s)] []) (C := Sum.elim (fun (r : Int32) => Q = RQ E X (some (.int r)) S) (fun (x : Unit) => J E X Q S 56 [] [])) (fun s o h hC => t8_leftAfter_L4 hF h hC) N (x1) z4 hz4 hx
set_option maxHeartbeats 1000000 in
theorem c8_leftAfter {E : En} {N : Nat} {a1 : Int32} {S : Mem} {ro : Int32} (h : f8_leftAfter N a1 S = some ro) : CT E yX8_leftAfter cX8_leftAfter 4 (some .int) 1 [.ref (eA E 39), .int a1] S (some (.int ro)) S :=
  CT_of (by decide) (Nat.le_of_ble_eq_true rfl) (fun X hF => t8_leftAfter hF h rfl)
def f8_loadIn_b35 (N : Nat) (v0 : Int32) (v1 : Int32) (v2 : Int32) (S : Mem) : Option Int32 :=
if (v1 &&& (4 : Int32)) = 0 then
some (v2)
else
if (10 : Int32) = (0 : Int32) then none else
if (10 : Int32) = (0 : Int32) then none else
lt_ (v2 + ((v0 / (10 : Int32)) - (v0 / (10 : Int32)) / (10 : Int32) * (10 : Int32))) fun x2 =>
some (x2)
def f8_loadIn_b19 (N : Nat) (v0 : Int32) (v1 : Int32) (v2 : Int32) (S : Mem) : Option Int32 :=
if (v1 &&& (2 : Int32)) = 0 then
f8_loadIn_b35 N v0 v1 v2 S
else
if (100 : Int32) = (0 : Int32) then none else
if (10 : Int32) = (0 : Int32) then none else
lt_ (v2 + ((v0 / (100 : Int32)) - (v0 / (100 : Int32)) / (10 : Int32) * (10 : Int32))) fun x3 =>
f8_loadIn_b35 N v0 v1 x3 S
def f8_loadIn (N : Nat) (a0 : Int32) (a1 : Int32) (S : Mem) : Option Int32 :=
if (10 : Int32) = (0 : Int32) then none else
lt_ (a0 - a0 / (10 : Int32) * (10 : Int32)) fun x1 =>
if (a1 &&& (1 : Int32)) = 0 then
f8_loadIn_b19 N a0 a1 x1 S
else
if (1000 : Int32) = (0 : Int32) then none else
lt_ (x1 + (a0 / (1000 : Int32))) fun x4 =>
f8_loadIn_b19 N a0 a1 x4 S
set_option maxHeartbeats 1000000 in
theorem t8_loadIn_b35 {E : En} {X : Cx} {Q : State → Prop} {N : Nat} {v0 : Int32} {v1 : Int32} {v2 : Int32} {S : Mem} {o : Int32} (hF : Fx E X cX8_loadIn RX8 3 (some .int) 0) (h : f8_loadIn_b35 N v0 v1 v2 S = some o) (hC : Q = RQ E X (some (.int o)) S) : J E X Q S 35 [(0, .int v0), (1, .int v1), (2, .int v2)] [] := by
  unfold f8_loadIn_b35 at h
  refine j_iload_n hF rfl 1 rfl dX8_loadIn_35 ?_
  refine j_iconst (v := (4 : Int32)) hF (by decide) dX8_loadIn_36 ?_
  refine j_iand hF dX8_loadIn_37 ?_
  refine j_if_eq (tgt := 51) hF h (by decide) dX8_loadIn_38 (fun h => ?_) (fun h => ?_)
  · refine j_iload_n hF rfl 2 rfl dX8_loadIn_51 ?_
    obtain rfl := ret1 h
    exact j_iret hF hC dX8_loadIn_52
  · refine j_iload_n hF rfl 2 rfl dX8_loadIn_41 ?_
    refine j_iload_n hF rfl 0 rfl dX8_loadIn_42 ?_
    refine j_bipush (v := (10 : Int32)) hF (by decide) dX8_loadIn_43 ?_
    refine j_idiv hF h dX8_loadIn_45 (fun h => ?_)
    refine j_bipush (v := (10 : Int32)) hF (by decide) dX8_loadIn_46 ?_
    refine j_irem hF h dX8_loadIn_48 (fun h => ?_)
    refine j_iadd hF dX8_loadIn_49 ?_
    refine j_istore_n (lv' := [(2, .int (v2 + ((v0 / (10 : Int32)) - (v0 / (10 : Int32)) / (10 : Int32) * (10 : Int32)))), (0, .int v0), (1, .int v1)]) hF rfl (by decide) rfl dX8_loadIn_50 ?_
    refine j_nmL h (fun x2 h => ?_)
    refine j_iload_n hF rfl 0 rfl dX8_loadIn_51 ?_
    obtain rfl := ret1 h
    exact j_iret hF hC dX8_loadIn_52
set_option maxHeartbeats 1000000 in
theorem t8_loadIn_b19 {E : En} {X : Cx} {Q : State → Prop} {N : Nat} {v0 : Int32} {v1 : Int32} {v2 : Int32} {S : Mem} {o : Int32} (hF : Fx E X cX8_loadIn RX8 3 (some .int) 0) (h : f8_loadIn_b19 N v0 v1 v2 S = some o) (hC : Q = RQ E X (some (.int o)) S) : J E X Q S 19 [(0, .int v0), (1, .int v1), (2, .int v2)] [] := by
  unfold f8_loadIn_b19 at h
  refine j_iload_n hF rfl 1 rfl dX8_loadIn_19 ?_
  refine j_iconst (v := (2 : Int32)) hF (by decide) dX8_loadIn_20 ?_
  refine j_iand hF dX8_loadIn_21 ?_
  refine j_if_eq (tgt := 35) hF h (by decide) dX8_loadIn_22 (fun h => ?_) (fun h => ?_)
  · exact t8_loadIn_b35 hF h hC
  · refine j_iload_n hF rfl 2 rfl dX8_loadIn_25 ?_
    refine j_iload_n hF rfl 0 rfl dX8_loadIn_26 ?_
    refine j_bipush (v := (100 : Int32)) hF (by decide) dX8_loadIn_27 ?_
    refine j_idiv hF h dX8_loadIn_29 (fun h => ?_)
    refine j_bipush (v := (10 : Int32)) hF (by decide) dX8_loadIn_30 ?_
    refine j_irem hF h dX8_loadIn_32 (fun h => ?_)
    refine j_iadd hF dX8_loadIn_33 ?_
    refine j_istore_n (lv' := [(2, .int (v2 + ((v0 / (100 : Int32)) - (v0 / (100 : Int32)) / (10 : Int32) * (10 : Int32)))), (0, .int v0), (1, .int v1)]) hF rfl (by decide) rfl dX8_loadIn_34 ?_
    refine j_nmL h (fun x3 h => ?_)
    refine j_sub (lv' := [(0, .int v0), (1, .int v1), (2, .int x3)]) hF [1, 2, 0] rfl ?_
    exact t8_loadIn_b35 hF h hC
set_option maxHeartbeats 1000000 in
theorem t8_loadIn {E : En} {X : Cx} {Q : State → Prop} {N : Nat} {a0 : Int32} {a1 : Int32} {S : Mem} {o : Int32} (hF : Fx E X cX8_loadIn RX8 3 (some .int) 0) (h : f8_loadIn N a0 a1 S = some o) (hC : Q = RQ E X (some (.int o)) S) : J E X Q S 0 [(0, .int a0), (1, .int a1)] [] := by
  unfold f8_loadIn at h
  refine j_iload_n hF rfl 0 rfl dX8_loadIn_0 ?_
  refine j_bipush (v := (10 : Int32)) hF (by decide) dX8_loadIn_1 ?_
  refine j_irem hF h dX8_loadIn_3 (fun h => ?_)
  refine j_istore_n (lv' := [(2, .int (a0 - a0 / (10 : Int32) * (10 : Int32))), (0, .int a0), (1, .int a1)]) hF rfl (by decide) rfl dX8_loadIn_4 ?_
  refine j_nmL h (fun x1 h => ?_)
  refine j_iload_n hF rfl 2 rfl dX8_loadIn_5 ?_
  refine j_iconst (v := (1 : Int32)) hF (by decide) dX8_loadIn_6 ?_
  refine j_iand hF dX8_loadIn_7 ?_
  refine j_if_eq (tgt := 19) hF h (by decide) dX8_loadIn_8 (fun h => ?_) (fun h => ?_)
  · refine j_sub (lv' := [(0, .int a0), (1, .int a1), (2, .int x1)]) hF [1, 2, 0] rfl ?_
    exact t8_loadIn_b19 hF h hC
  · refine j_iload_n hF rfl 0 rfl dX8_loadIn_11 ?_
    refine j_iload_n hF rfl 1 rfl dX8_loadIn_12 ?_
    refine j_sipush (v := (1000 : Int32)) hF (by decide) dX8_loadIn_13 ?_
    refine j_idiv hF h dX8_loadIn_16 (fun h => ?_)
    refine j_iadd hF dX8_loadIn_17 ?_
    refine j_istore_n (lv' := [(2, .int (x1 + (a0 / (1000 : Int32)))), (0, .int a0), (1, .int a1)]) hF rfl (by decide) rfl dX8_loadIn_18 ?_
    refine j_nmL h (fun x4 h => ?_)
    refine j_sub (lv' := [(0, .int a0), (1, .int a1), (2, .int x4)]) hF [1, 2, 0] rfl ?_
    exact t8_loadIn_b19 hF h hC
set_option maxHeartbeats 1000000 in
theorem c8_loadIn {E : En} {N : Nat} {a0 : Int32} {a1 : Int32} {S : Mem} {ro : Int32} (h : f8_loadIn N a0 a1 S = some ro) : CT E yX8_loadIn cX8_loadIn 3 (some .int) 0 [.int a0, .int a1] S (some (.int ro)) S :=
  CT_of (by decide) (Nat.le_of_ble_eq_true rfl) (fun X hF => t8_loadIn hF h rfl)
def f3_shownIn (N : Nat) (a1 : Int32) (a2 : Int32) (S : Mem) : Option Int32 :=
bnp (f8_loadIn N a1 a2 S) fun r1 =>
bnp (f6_leftOver_10 N r1 S) fun r2 =>
some (r2)
set_option maxHeartbeats 1000000 in
theorem t3_shownIn {E : En} {X : Cx} {Q : State → Prop} {N : Nat} {a1 : Int32} {a2 : Int32} {S : Mem} {o : Int32} (hF : Fx E X cX3_shownIn RX3 3 (some .int) 1) (h : f3_shownIn N a1 a2 S = some o) (hC : Q = RQ E X (some (.int o)) S) : J E X Q S 0 [(0, .ref (eA E 50)), (1, .int a1), (2, .int a2)] [] := by
  unfold f3_shownIn at h
  refine j_aload_n hF rfl 0 rfl dX3_shownIn_0 ?_
  refine gf3_0 hF (by decide) (s_50 E _) rfl bw_1_209 dX3_shownIn_1 ?_
  refine j_iload_n hF rfl 1 rfl dX3_shownIn_4 ?_
  refine j_iload_n hF rfl 2 rfl dX3_shownIn_5 ?_
  obtain ⟨r1, hr1, h⟩ := bnp_some h
  refine j_callS_i (As := [.int a1, .int a2]) (st := [.ref (eA E 10)]) hF rfl mv_8_loadIn bw_3_182 rfl (by decide) (Nat.le_of_ble_eq_true rfl) dX3_shownIn_6 (c8_loadIn hr1) ?_
  obtain ⟨r2, hr2, h⟩ := bnp_some h
  refine j_callV_i (As := [.int r1]) (st := []) hF rfl mv_6_leftOver (by decide) (s_10 E _) rfl bw_3_185 rfl (by decide) (Nat.le_of_ble_eq_true rfl) dX3_shownIn_9 (c6_leftOver_10 hr2) ?_
  obtain rfl := ret1 h
  exact j_iret hF hC dX3_shownIn_12
set_option maxHeartbeats 1000000 in
theorem c3_shownIn {E : En} {N : Nat} {a1 : Int32} {a2 : Int32} {S : Mem} {ro : Int32} (h : f3_shownIn N a1 a2 S = some ro) : CT E yX3_shownIn cX3_shownIn 3 (some .int) 1 [.ref (eA E 50), .int a1, .int a2] S (some (.int ro)) S :=
  CT_of (by decide) (Nat.le_of_ble_eq_true rfl) (fun X hF => t3_shownIn hF h rfl)
def f3_worstOf_L23 (N : Nat) (v1 : Int32) (v2 : Int32) (v3 : Int32) (v4 : Int32) (v5 : Int32) (S : Mem) : Option ((Int32 × Int32 × Int32 × Mem) ⊕ (Int32 × Mem)) :=
if v2 ≤ v5 then
some (.inr (v3, S))
else
bnp (f8_leftAfter N v4 S) fun r4 =>
bnp (f3_shownIn N r4 v1 S) fun r5 =>
bnd (f5_add N 51 20 r5 (1 : Int32) S) fun r6 S7 =>
bnp (f5_get N 51 20 r5 S7) fun r8 =>
lt_ (if v3 < r8 then r8 else v3) fun x9 =>
lt_ (v5 + (1 : Int32)) fun x10 =>
some (.inl (x9, r4, x10, S7))
def f3_worstOf_b79 (N : Nat) (v3 : Int32) (S : Mem) : Option (Int32 × Mem) :=
some ((v3, S))
def f3_worstOf (N : Nat) (a1 : Int32) (S : Mem) : Option (Int32 × Mem) :=
bnd (f5_wipe N 51 20 S) fun r1 S2 =>
bnp (f8_left N S2) fun r3 =>
bnp (lp N (fun s => f3_worstOf_L23 N a1 r3 s.1 s.2.1 s.2.2.1 s.2.2.2) ((0 : Int32), (-1 : Int32), (0 : Int32), S2)) fun z11 =>
f3_worstOf_b79 N z11.1 z11.2
set_option maxHeartbeats 1000000 in
theorem t3_worstOf_L23 {E : En} {X : Cx} {Q : State → Prop} {N : Nat} {v1 : Int32} {v2 : Int32} {v3 : Int32} {v4 : Int32} {v5 : Int32} {S : Mem} {o : ((Int32 × Int32 × Int32 × Mem) ⊕ (Int32 × Mem))} (hF : Fx E X cX3_worstOf RX3 7 (some .int) 2) (h : f3_worstOf_L23 N v1 v2 v3 v4 v5 S = some o) (hC : Sum.elim (fun (s : (Int32 × Int32 × Int32 × Mem)) => J E X Q s.2.2.2 23 [(0, .ref (eA E 50)), (1, .int v1), (2, .int v2), (3, .int s.1), (4, .int s.2.1), (5, .int s.2.2.1)] []) (fun (x : (Int32 × Mem)) => J E X Q x.2 79 [(3, .int x.1)] []) o) : J E X Q S 23 [(0, .ref (eA E 50)), (1, .int v1), (2, .int v2), (3, .int v3), (4, .int v4), (5, .int v5)] [] := by
  unfold f3_worstOf_L23 at h
  refine j_iload hF 5 rfl dX3_worstOf_23 ?_
  refine j_iload_n hF rfl 2 rfl dX3_worstOf_25 ?_
  refine j_icmp_ge (tgt := 79) hF h (by decide) dX3_worstOf_26 (fun h => ?_) (fun h => ?_)
  · obtain rfl := ret1 h
    refine j_sub (lv' := [(3, .int v3)]) hF [3] rfl ?_
    exact hC
  · refine j_aload_n hF rfl 0 rfl dX3_worstOf_29 ?_
    refine gf3_1 hF (by decide) (s_50 E _) rfl bw_1_210 dX3_worstOf_30 ?_
    refine j_iload hF 4 rfl dX3_worstOf_33 ?_
    obtain ⟨r4, hr4, h⟩ := bnp_some h
    refine j_callV_i (As := [.int v4]) (st := []) hF rfl mv_8_leftAfter (by decide) (s_39 E _) rfl bw_3_174 rfl (by decide) (Nat.le_of_ble_eq_true rfl) dX3_worstOf_35 (c8_leftAfter hr4) ?_
    refine j_istore (lv' := [(4, .int r4), (0, .ref (eA E 50)), (1, .int v1), (2, .int v2), (3, .int v3), (5, .int v5)]) hF (by decide) rfl dX3_worstOf_38 ?_
    refine j_aload_n hF rfl 1 rfl dX3_worstOf_40 ?_
    refine j_iload hF 0 rfl dX3_worstOf_41 ?_
    refine j_iload_n hF rfl 2 rfl dX3_worstOf_43 ?_
    obtain ⟨r5, hr5, h⟩ := bnp_some h
    refine j_callV_i (As := [.int r4, .int v1]) (st := []) hF rfl mv_3_shownIn (by decide) (s_50 E _) rfl bw_3_178 rfl (by decide) (Nat.le_of_ble_eq_true rfl) dX3_worstOf_44 (c3_shownIn hr5) ?_
    refine j_istore (lv' := [(6, .int r5), (4, .int r4), (0, .ref (eA E 50)), (1, .int v1), (2, .int v2), (3, .int v3), (5, .int v5)]) hF (by decide) rfl dX3_worstOf_47 ?_
    refine j_aload_n hF rfl 2 rfl dX3_worstOf_49 ?_
    refine gf3_2 hF (by decide) (s_50 E _) rfl bw_1_211 dX3_worstOf_50 ?_
    refine j_iload hF 0 rfl dX3_worstOf_53 ?_
    refine j_iconst (v := (1 : Int32)) hF (by decide) dX3_worstOf_55 ?_
    obtain ⟨r6, S7, hr6, h⟩ := bnd_some h
    refine j_callV_v (As := [.int r5, .int (1 : Int32)]) (st := []) hF rfl mv_5_add (by decide) (s_51 E _) rfl bw_3_186 rfl (by decide) (Nat.le_of_ble_eq_true rfl) dX3_worstOf_56 (c5_add (ra_51 E) hr6) ?_
    refine j_iload_n hF rfl 5 rfl dX3_worstOf_59 ?_
    refine j_aload_n hF rfl 2 rfl dX3_worstOf_60 ?_
    refine gf3_2 hF (by decide) (s_50 E _) rfl bw_1_211 dX3_worstOf_61 ?_
    refine j_iload hF 0 rfl dX3_worstOf_64 ?_
    obtain ⟨r8, hr8, h⟩ := bnp_some h
    refine j_callV_i (As := [.int r5]) (st := [.int v3]) hF rfl mv_5_get (by decide) (s_51 E _) rfl bw_3_187 rfl (by decide) (Nat.le_of_ble_eq_true rfl) dX3_worstOf_66 (c5_get (ra_51 E) hr8) ?_
    refine j_mmax hF bw_3_188 bw_3_189 bw_1_17 bw_3_190 (by decide) (Nat.le_of_ble_eq_true rfl) dX3_worstOf_69 ?_
    refine j_istore_n (lv' := [(3, .int (if v3 < r8 then r8 else v3)), (6, .int r5), (4, .int r4), (0, .ref (eA E 50)), (1, .int v1), (2, .int v2), (5, .int v5)]) hF rfl (by decide) rfl dX3_worstOf_72 ?_
    refine j_nmL h (fun x9 h => ?_)
    refine j_iinc (v := (v5 + (1 : Int32))) (lv' := [(5, .int (v5 + (1 : Int32))), (3, .int x9), (6, .int r5), (4, .int r4), (0, .ref (eA E 50)), (1, .int v1), (2, .int v2)]) (q := 6) hF rfl (congrArg (fun z => v5 + z) (by decide)) (by decide) rfl dX3_worstOf_73 ?_
    refine j_nmL h (fun x10 h => ?_)
    refine j_goto (tgt := 23) hF (by decide) dX3_worstOf_76 ?_
    obtain rfl := ret1 h
    refine j_sub (lv' := [(0, .ref (eA E 50)), (1, .int v1), (2, .int v2), (3, .int x9), (4, .int r4), (5, .int x10)]) hF [4, 5, 6, 1, 3, 0] rfl ?_
    exact hC
set_option maxHeartbeats 1000000 in
theorem t3_worstOf_b79 {E : En} {X : Cx} {Q : State → Prop} {N : Nat} {v3 : Int32} {S : Mem} {o : (Int32 × Mem)} (hF : Fx E X cX3_worstOf RX3 7 (some .int) 2) (h : f3_worstOf_b79 N v3 S = some o) (hC : Q = RQ E X (some (.int o.1)) o.2) : J E X Q S 79 [(3, .int v3)] [] := by
  unfold f3_worstOf_b79 at h
  refine j_iload_n hF rfl 0 rfl dX3_worstOf_79 ?_
  obtain rfl := ret1 h
  exact j_iret hF hC dX3_worstOf_80
set_option maxHeartbeats 1000000 in
theorem t3_worstOf {E : En} {X : Cx} {Q : State → Prop} {N : Nat} {a1 : Int32} {S : Mem} {o : (Int32 × Mem)} (hF : Fx E X cX3_worstOf RX3 7 (some .int) 2) (h : f3_worstOf N a1 S = some o) (hC : Q = RQ E X (some (.int o.1)) o.2) : J E X Q S 0 [(0, .ref (eA E 50)), (1, .int a1)] [] := by
  unfold f3_worstOf at h
  refine j_aload_n hF rfl 0 rfl dX3_worstOf_0 ?_
  refine gf3_2 hF (by decide) (s_50 E _) rfl bw_1_211 dX3_worstOf_1 ?_
  obtain ⟨r1, S2, hr1, h⟩ := bnd_some h
  refine j_callV_v (As := []) (st := []) hF rfl mv_5_wipe (by decide) (s_51 E _) rfl bw_3_172 rfl (by decide) (Nat.le_of_ble_eq_true rfl) dX3_worstOf_4 (c5_wipe (ra_51 E) hr1) ?_
  refine j_aload_n hF rfl 0 rfl dX3_worstOf_7 ?_
  refine gf3_1 hF (by decide) (s_50 E _) rfl bw_1_210 dX3_worstOf_8 ?_
  obtain ⟨r3, hr3, h⟩ := bnp_some h
  refine j_callV_i (As := []) (st := []) hF rfl mv_8_left (by decide) (s_39 E _) rfl bw_3_173 rfl (by decide) (Nat.le_of_ble_eq_true rfl) dX3_worstOf_11 (c8_left hr3) ?_
  refine j_istore_n (lv' := [(2, .int r3), (0, .ref (eA E 50)), (1, .int a1)]) hF rfl (by decide) rfl dX3_worstOf_14 ?_
  refine j_iconst (v := (0 : Int32)) hF (by decide) dX3_worstOf_15 ?_
  refine j_istore_n (lv' := [(3, .int (0 : Int32)), (2, .int r3), (0, .ref (eA E 50)), (1, .int a1)]) hF rfl (by decide) rfl dX3_worstOf_16 ?_
  refine j_iconst (v := (-1 : Int32)) hF (by decide) dX3_worstOf_17 ?_
  refine j_istore (lv' := [(4, .int (-1 : Int32)), (3, .int (0 : Int32)), (2, .int r3), (0, .ref (eA E 50)), (1, .int a1)]) hF (by decide) rfl dX3_worstOf_18 ?_
  refine j_iconst (v := (0 : Int32)) hF (by decide) dX3_worstOf_20 ?_
  refine j_istore (lv' := [(5, .int (0 : Int32)), (4, .int (-1 : Int32)), (3, .int (0 : Int32)), (2, .int r3), (0, .ref (eA E 50)), (1, .int a1)]) hF (by decide) rfl dX3_worstOf_21 ?_
  obtain ⟨z11, hz11, h⟩ := bnp_some h
  refine j_sub (lv' := [(0, .ref (eA E 50)), (1, .int a1), (2, .int r3), (3, .int (0 : Int32)), (4, .int (-1 : Int32)), (5, .int (0 : Int32))]) hF [4, 5, 3, 2, 1, 0] rfl ?_
  have hx : (fun (x : (Int32 × Mem)) => J E X Q x.2 79 [(3, .int x.1)] []) z11 := by
    exact t3_worstOf_b79 hF h hC
  exact lp_rule (Jh := fun (s : (Int32 × Int32 × Int32 × Mem)) => J E X Q s.2.2.2 23 [(0, .ref (eA E 50)), (1, .int a1), (2, .int r3), (3, .int s.1), (4, .int s.2.1), (5, .int s.2.2.1)] []) (C := fun (x : (Int32 × Mem)) => J E X Q x.2 79 [(3, .int x.1)] []) (fun s o h hC => t3_worstOf_L23 hF h hC) N ((0 : Int32), (-1 : Int32), (0 : Int32), S2) z11 hz11 hx
set_option maxHeartbeats 1000000 in
theorem c3_worstOf {E : En} {N : Nat} {a1 : Int32} {S So : Mem} {ro : Int32} (h : f3_worstOf N a1 S = some (ro, So)) : CT E yX3_worstOf cX3_worstOf 7 (some .int) 2 [.ref (eA E 50), .int a1] S (some (.int ro)) So :=
  CT_of (by decide) (Nat.le_of_ble_eq_true rfl) (fun X hF => t3_worstOf hF h rfl)
def f3_bestSet_b39 (N : Nat) (v1 : Int32) (v2 : Int32) (v3 : Int32) (S : Mem) : Option ((Int32 × Int32 × Int32 × Mem) ⊕ (Int32 × Mem)) :=
lt_ (v3 + (1 : Int32)) fun x6 =>
some (.inl (v1, v2, x6, S))
def f3_bestSet_L10 (N : Nat) (v1 : Int32) (v2 : Int32) (v3 : Int32) (S : Mem) : Option ((Int32 × Int32 × Int32 × Mem) ⊕ (Int32 × Mem)) :=
bnp (f6_sets_10 N S) fun r3 =>
if r3 ≤ v3 then
some (.inr (v1, S))
else
bnd (f3_worstOf N v3 S) fun r4 S5 =>
if v2 ≤ r4 then
f3_bestSet_b39 N v1 v2 v3 S5
else
f3_bestSet_b39 N v3 r4 v3 S5
def f3_bestSet_b45 (N : Nat) (v1 : Int32) (S : Mem) : Option (Int32 × Mem) :=
some ((v1, S))
def f3_bestSet (N : Nat) (S : Mem) : Option (Int32 × Mem) :=
bnd (f3_worstOf N (1 : Int32) S) fun r1 S2 =>
bnp (lp N (fun s => f3_bestSet_L10 N s.1 s.2.1 s.2.2.1 s.2.2.2) ((1 : Int32), r1, (2 : Int32), S2)) fun z7 =>
f3_bestSet_b45 N z7.1 z7.2
set_option maxHeartbeats 1000000 in
theorem t3_bestSet_b39 {E : En} {X : Cx} {Q : State → Prop} {N : Nat} {v1 : Int32} {v2 : Int32} {v3 : Int32} {S : Mem} {o : ((Int32 × Int32 × Int32 × Mem) ⊕ (Int32 × Mem))} (hF : Fx E X cX3_bestSet RX3 5 (some .int) 3) (h : f3_bestSet_b39 N v1 v2 v3 S = some o) (hC : Sum.elim (fun (s : (Int32 × Int32 × Int32 × Mem)) => J E X Q s.2.2.2 10 [(0, .ref (eA E 50)), (1, .int s.1), (2, .int s.2.1), (3, .int s.2.2.1)] []) (fun (x : (Int32 × Mem)) => J E X Q x.2 45 [(1, .int x.1)] []) o) : J E X Q S 39 [(0, .ref (eA E 50)), (1, .int v1), (2, .int v2), (3, .int v3)] [] := by
  unfold f3_bestSet_b39 at h
  refine j_iinc (v := (v3 + (1 : Int32))) (lv' := [(3, .int (v3 + (1 : Int32))), (0, .ref (eA E 50)), (1, .int v1), (2, .int v2)]) (q := 3) hF rfl (congrArg (fun z => v3 + z) (by decide)) (by decide) rfl dX3_bestSet_39 ?_
  refine j_nmL h (fun x6 h => ?_)
  refine j_goto (tgt := 10) hF (by decide) dX3_bestSet_42 ?_
  obtain rfl := ret1 h
  refine j_sub (lv' := [(0, .ref (eA E 50)), (1, .int v1), (2, .int v2), (3, .int x6)]) hF [1, 2, 3, 0] rfl ?_
  exact hC
set_option maxHeartbeats 1000000 in
theorem t3_bestSet_L10 {E : En} {X : Cx} {Q : State → Prop} {N : Nat} {v1 : Int32} {v2 : Int32} {v3 : Int32} {S : Mem} {o : ((Int32 × Int32 × Int32 × Mem) ⊕ (Int32 × Mem))} (hF : Fx E X cX3_bestSet RX3 5 (some .int) 3) (h : f3_bestSet_L10 N v1 v2 v3 S = some o) (hC : Sum.elim (fun (s : (Int32 × Int32 × Int32 × Mem)) => J E X Q s.2.2.2 10 [(0, .ref (eA E 50)), (1, .int s.1), (2, .int s.2.1), (3, .int s.2.2.1)] []) (fun (x : (Int32 × Mem)) => J E X Q x.2 45 [(1, .int x.1)] []) o) : J E X Q S 10 [(0, .ref (eA E 50)), (1, .int v1), (2, .int v2), (3, .int v3)] [] := by
  unfold f3_bestSet_L10 at h
  refine j_iload_n hF rfl 3 rfl dX3_bestSet_10 ?_
  refine j_aload_n hF rfl 0 rfl dX3_bestSet_11 ?_
  refine gf3_0 hF (by decide) (s_50 E _) rfl bw_1_209 dX3_bestSet_12 ?_
  obtain ⟨r3, hr3, h⟩ := bnp_some h
  refine j_callV_i (As := []) (st := [.int v3]) hF rfl mv_6_sets (by decide) (s_10 E _) rfl bw_3_191 rfl (by decide) (Nat.le_of_ble_eq_true rfl) dX3_bestSet_15 (c6_sets_10 hr3) ?_
  refine j_icmp_ge (tgt := 45) hF h (by decide) dX3_bestSet_18 (fun h => ?_) (fun h => ?_)
  · obtain rfl := ret1 h
    refine j_sub (lv' := [(1, .int v1)]) hF [1] rfl ?_
    exact hC
  · refine j_aload_n hF rfl 0 rfl dX3_bestSet_21 ?_
    refine j_iload_n hF rfl 3 rfl dX3_bestSet_22 ?_
    obtain ⟨r4, S5, hr4, h⟩ := bnd_some h
    refine j_callV_i (As := [.int v3]) (st := []) hF rfl mv_3_worstOf (by decide) (s_50 E _) rfl bw_3_168 rfl (by decide) (Nat.le_of_ble_eq_true rfl) dX3_bestSet_23 (c3_worstOf hr4) ?_
    refine j_istore (lv' := [(4, .int r4), (0, .ref (eA E 50)), (1, .int v1), (2, .int v2), (3, .int v3)]) hF (by decide) rfl dX3_bestSet_26 ?_
    refine j_iload hF 0 rfl dX3_bestSet_28 ?_
    refine j_iload_n hF rfl 3 rfl dX3_bestSet_30 ?_
    refine j_icmp_ge (tgt := 39) hF h (by decide) dX3_bestSet_31 (fun h => ?_) (fun h => ?_)
    · refine j_sub (lv' := [(0, .ref (eA E 50)), (1, .int v1), (2, .int v2), (3, .int v3)]) hF [1, 2, 3, 4] rfl ?_
      exact t3_bestSet_b39 hF h hC
    · refine j_iload hF 0 rfl dX3_bestSet_34 ?_
      refine j_istore_n (lv' := [(2, .int r4), (4, .int r4), (0, .ref (eA E 50)), (1, .int v1), (3, .int v3)]) hF rfl (by decide) rfl dX3_bestSet_36 ?_
      refine j_iload_n hF rfl 4 rfl dX3_bestSet_37 ?_
      refine j_istore_n (lv' := [(1, .int v3), (2, .int r4), (4, .int r4), (0, .ref (eA E 50)), (3, .int v3)]) hF rfl (by decide) rfl dX3_bestSet_38 ?_
      refine j_sub (lv' := [(0, .ref (eA E 50)), (1, .int v3), (2, .int r4), (3, .int v3)]) hF [3, 0, 1, 4] rfl ?_
      exact t3_bestSet_b39 hF h hC
set_option maxHeartbeats 1000000 in
theorem t3_bestSet_b45 {E : En} {X : Cx} {Q : State → Prop} {N : Nat} {v1 : Int32} {S : Mem} {o : (Int32 × Mem)} (hF : Fx E X cX3_bestSet RX3 5 (some .int) 3) (h : f3_bestSet_b45 N v1 S = some o) (hC : Q = RQ E X (some (.int o.1)) o.2) : J E X Q S 45 [(1, .int v1)] [] := by
  unfold f3_bestSet_b45 at h
  refine j_iload_n hF rfl 0 rfl dX3_bestSet_45 ?_
  obtain rfl := ret1 h
  exact j_iret hF hC dX3_bestSet_46
set_option maxHeartbeats 1000000 in
theorem t3_bestSet {E : En} {X : Cx} {Q : State → Prop} {N : Nat} {S : Mem} {o : (Int32 × Mem)} (hF : Fx E X cX3_bestSet RX3 5 (some .int) 3) (h : f3_bestSet N S = some o) (hC : Q = RQ E X (some (.int o.1)) o.2) : J E X Q S 0 [(0, .ref (eA E 50))] [] := by
  unfold f3_bestSet at h
  refine j_iconst (v := (1 : Int32)) hF (by decide) dX3_bestSet_0 ?_
  refine j_istore_n (lv' := [(1, .int (1 : Int32)), (0, .ref (eA E 50))]) hF rfl (by decide) rfl dX3_bestSet_1 ?_
  refine j_aload_n hF rfl 1 rfl dX3_bestSet_2 ?_
  refine j_iconst (v := (1 : Int32)) hF (by decide) dX3_bestSet_3 ?_
  obtain ⟨r1, S2, hr1, h⟩ := bnd_some h
  refine j_callV_i (As := [.int (1 : Int32)]) (st := []) hF rfl mv_3_worstOf (by decide) (s_50 E _) rfl bw_3_168 rfl (by decide) (Nat.le_of_ble_eq_true rfl) dX3_bestSet_4 (c3_worstOf hr1) ?_
  refine j_istore_n (lv' := [(2, .int r1), (1, .int (1 : Int32)), (0, .ref (eA E 50))]) hF rfl (by decide) rfl dX3_bestSet_7 ?_
  refine j_iconst (v := (2 : Int32)) hF (by decide) dX3_bestSet_8 ?_
  refine j_istore_n (lv' := [(3, .int (2 : Int32)), (2, .int r1), (1, .int (1 : Int32)), (0, .ref (eA E 50))]) hF rfl (by decide) rfl dX3_bestSet_9 ?_
  obtain ⟨z7, hz7, h⟩ := bnp_some h
  refine j_sub (lv' := [(0, .ref (eA E 50)), (1, .int (1 : Int32)), (2, .int r1), (3, .int (2 : Int32))]) hF [3, 2, 1, 0] rfl ?_
  have hx : (fun (x : (Int32 × Mem)) => J E X Q x.2 45 [(1, .int x.1)] []) z7 := by
    exact t3_bestSet_b45 hF h hC
  exact lp_rule (Jh := fun (s : (Int32 × Int32 × Int32 × Mem)) => J E X Q s.2.2.2 10 [(0, .ref (eA E 50)), (1, .int s.1), (2, .int s.2.1), (3, .int s.2.2.1)] []) (C := fun (x : (Int32 × Mem)) => J E X Q x.2 45 [(1, .int x.1)] []) (fun s o h hC => t3_bestSet_L10 hF h hC) N ((1 : Int32), r1, (2 : Int32), S2) z7 hz7 hx
set_option maxHeartbeats 1000000 in
theorem c3_bestSet {E : En} {N : Nat} {S So : Mem} {ro : Int32} (h : f3_bestSet N S = some (ro, So)) : CT E yX3_bestSet cX3_bestSet 5 (some .int) 3 [.ref (eA E 50)] S (some (.int ro)) So :=
  CT_of (by decide) (Nat.le_of_ble_eq_true rfl) (fun X hF => t3_bestSet hF h rfl)
def f9_next (N : Nat) (a1 : Int32) (S : Mem) : Option (Int32 × Mem) :=
bnp (f9_isBetween N a1 (0 : Int32) (1 : Int32) S) fun r1 =>
if r1 = 0 then
some (((-1 : Int32), S))
else
bnp (f6_things_10 N S) fun r2 =>
if r2 = 0 then
some (((-9 : Int32), S))
else
bnd (f8_learn N S) fun r3 S4 =>
bnd (f3_bestSet N S4) fun r5 S6 =>
if a1 = 0 then
some ((r5, S6))
else
bnd (f3_worstOf N r5 S6) fun r7 S8 =>
some ((r7, S8))
set_option maxHeartbeats 1000000 in
theorem t9_next {E : En} {X : Cx} {Q : State → Prop} {N : Nat} {a1 : Int32} {S : Mem} {o : (Int32 × Mem)} (hF : Fx E X cX9_next RX9 3 (some .int) 5) (h : f9_next N a1 S = some o) (hC : Q = RQ E X (some (.int o.1)) o.2) : J E X Q S 0 [(0, .ref (eA E 0)), (1, .int a1)] [] := by
  unfold f9_next at h
  refine j_iload_n hF rfl 1 rfl dX9_next_0 ?_
  refine j_iconst (v := (0 : Int32)) hF (by decide) dX9_next_1 ?_
  refine j_iconst (v := (1 : Int32)) hF (by decide) dX9_next_2 ?_
  obtain ⟨r1, hr1, h⟩ := bnp_some h
  refine j_callS_i (As := [.int a1, .int (0 : Int32), .int (1 : Int32)]) (st := []) hF rfl mv_9_isBetween bw_2_219 rfl (by decide) (Nat.le_of_ble_eq_true rfl) dX9_next_3 (c9_isBetween hr1) ?_
  refine j_if_ne (tgt := 11) hF h (by decide) dX9_next_6 (fun h => ?_) (fun h => ?_)
  · refine j_aload_n hF rfl 0 rfl dX9_next_11 ?_
    refine gf9_2 hF (by decide) (s_0 E _) rfl bw_1_227 dX9_next_12 ?_
    obtain ⟨r2, hr2, h⟩ := bnp_some h
    refine j_callV_i (As := []) (st := []) hF rfl mv_6_things (by decide) (s_10 E _) rfl bw_2_218 rfl (by decide) (Nat.le_of_ble_eq_true rfl) dX9_next_15 (c6_things_10 hr2) ?_
    refine j_if_ne (tgt := 24) hF h (by decide) dX9_next_18 (fun h => ?_) (fun h => ?_)
    · refine j_aload_n hF rfl 0 rfl dX9_next_24 ?_
      refine gf9_7 hF (by decide) (s_0 E _) rfl bw_1_232 dX9_next_25 ?_
      obtain ⟨r3, S4, hr3, h⟩ := bnd_some h
      refine j_callV_v (As := []) (st := []) hF rfl mv_8_learn (by decide) (s_39 E _) rfl bw_3_68 rfl (by decide) (Nat.le_of_ble_eq_true rfl) dX9_next_28 (c8_learn hr3) ?_
      refine j_aload_n hF rfl 0 rfl dX9_next_31 ?_
      refine gf9_8 hF (by decide) (s_0 E _) rfl bw_1_233 dX9_next_32 ?_
      obtain ⟨r5, S6, hr5, h⟩ := bnd_some h
      refine j_callV_i (As := []) (st := []) hF rfl mv_3_bestSet (by decide) (s_50 E _) rfl bw_3_164 rfl (by decide) (Nat.le_of_ble_eq_true rfl) dX9_next_35 (c3_bestSet hr5) ?_
      refine j_istore_n (lv' := [(2, .int r5), (0, .ref (eA E 0)), (1, .int a1)]) hF rfl (by decide) rfl dX9_next_38 ?_
      refine j_iload_n hF rfl 2 rfl dX9_next_39 ?_
      refine j_if_ne (tgt := 47) hF h (by decide) dX9_next_40 (fun h => ?_) (fun h => ?_)
      · refine j_aload_n hF rfl 1 rfl dX9_next_47 ?_
        refine gf9_8 hF (by decide) (s_0 E _) rfl bw_1_233 dX9_next_48 ?_
        refine j_iload_n hF rfl 0 rfl dX9_next_51 ?_
        obtain ⟨r7, S8, hr7, h⟩ := bnd_some h
        refine j_callV_i (As := [.int r5]) (st := []) hF rfl mv_3_worstOf (by decide) (s_50 E _) rfl bw_3_192 rfl (by decide) (Nat.le_of_ble_eq_true rfl) dX9_next_52 (c3_worstOf hr7) ?_
        obtain rfl := ret1 h
        exact j_iret hF hC dX9_next_55
      · refine j_iload_n hF rfl 0 rfl dX9_next_43 ?_
        refine j_goto (tgt := 55) hF (by decide) dX9_next_44 ?_
        obtain rfl := ret1 h
        exact j_iret hF hC dX9_next_55
    · refine j_bipush (v := (-9 : Int32)) hF (by decide) dX9_next_21 ?_
      obtain rfl := ret1 h
      exact j_iret hF hC dX9_next_23
  · refine j_iconst (v := (-1 : Int32)) hF (by decide) dX9_next_9 ?_
    obtain rfl := ret1 h
    exact j_iret hF hC dX9_next_10
set_option maxHeartbeats 1000000 in
theorem c9_next {E : En} {N : Nat} {a1 : Int32} {S So : Mem} {ro : Int32} (h : f9_next N a1 S = some (ro, So)) : CT E yX9_next cX9_next 3 (some .int) 5 [.ref (eA E 0), .int a1] S (some (.int ro)) So :=
  CT_of (by decide) (Nat.le_of_ble_eq_true rfl) (fun X hF => t9_next hF h rfl)
def f3_isTorn_53 (N : Nat) (a1 : Int32) (a2 : Int32) (S : Mem) : Option (Int32 × Mem) :=
bnd (f5_join N 53 20 a1 ((1 : Int32) <<< (a2 &&& 31)) S) fun r1 S2 =>
bnp (f5_get N 53 20 a1 S2) fun r3 =>
bnp (fJ6_bitCount N r3 S2) fun r4 =>
if r4 ≤ (1 : Int32) then
some (((0 : Int32), S2))
else
some (((1 : Int32), S2))
set_option maxHeartbeats 1000000 in
theorem t3_isTorn_53 {E : En} {X : Cx} {Q : State → Prop} {N : Nat} {a1 : Int32} {a2 : Int32} {S : Mem} {o : (Int32 × Mem)} (hF : Fx E X cX3_isTorn RX3 3 (some .boolean) 1) (h : f3_isTorn_53 N a1 a2 S = some o) (hC : Q = RQ E X (some (.int o.1)) o.2) : J E X Q S 0 [(0, .ref (eA E 53)), (1, .int a1), (2, .int a2)] [] := by
  unfold f3_isTorn_53 at h
  refine j_aload_n hF rfl 0 rfl dX3_isTorn_0 ?_
  refine j_iload_n hF rfl 1 rfl dX3_isTorn_1 ?_
  refine j_iconst (v := (1 : Int32)) hF (by decide) dX3_isTorn_2 ?_
  refine j_iload_n hF rfl 2 rfl dX3_isTorn_3 ?_
  refine j_ishl hF dX3_isTorn_4 ?_
  obtain ⟨r1, S2, hr1, h⟩ := bnd_some h
  refine j_callV_v (As := [.int a1, .int ((1 : Int32) <<< (a2 &&& 31))]) (st := []) hF rfl mv_5_join (by decide) (s_53 E _) rfl bw_3_210 rfl (by decide) (Nat.le_of_ble_eq_true rfl) dX3_isTorn_5 (c5_join (ra_53 E) hr1) ?_
  refine j_aload_n hF rfl 0 rfl dX3_isTorn_8 ?_
  refine j_iload_n hF rfl 1 rfl dX3_isTorn_9 ?_
  obtain ⟨r3, hr3, h⟩ := bnp_some h
  refine j_callV_i (As := [.int a1]) (st := []) hF rfl mv_5_get (by decide) (s_53 E _) rfl bw_3_187 rfl (by decide) (Nat.le_of_ble_eq_true rfl) dX3_isTorn_10 (c5_get (ra_53 E) hr3) ?_
  obtain ⟨r4, hr4, h⟩ := bnp_some h
  refine j_callS_i (As := [.int r3]) (st := []) hF rfl mv_J6_bitCount bw_3_211 rfl (by decide) (Nat.le_of_ble_eq_true rfl) dX3_isTorn_13 (cJ6_bitCount hr4) ?_
  refine j_iconst (v := (1 : Int32)) hF (by decide) dX3_isTorn_16 ?_
  refine j_icmp_le (tgt := 24) hF h (by decide) dX3_isTorn_17 (fun h => ?_) (fun h => ?_)
  · refine j_iconst (v := (0 : Int32)) hF (by decide) dX3_isTorn_24 ?_
    obtain rfl := ret1 h
    exact j_ret_boolean hF (by decide) hC dX3_isTorn_25
  · refine j_iconst (v := (1 : Int32)) hF (by decide) dX3_isTorn_20 ?_
    refine j_goto (tgt := 25) hF (by decide) dX3_isTorn_21 ?_
    obtain rfl := ret1 h
    exact j_ret_boolean hF (by decide) hC dX3_isTorn_25
set_option maxHeartbeats 1000000 in
theorem c3_isTorn_53 {E : En} {N : Nat} {a1 : Int32} {a2 : Int32} {S So : Mem} {ro : Int32} (h : f3_isTorn_53 N a1 a2 S = some (ro, So)) : CT E yX3_isTorn cX3_isTorn 3 (some .boolean) 1 [.ref (eA E 53), .int a1, .int a2] S (some (.int ro)) So :=
  CT_of (by decide) (Nat.le_of_ble_eq_true rfl) (fun X hF => t3_isTorn_53 hF h rfl)
def f3_isSureBy_L21 (N : Nat) (v1 : Int32) (v2 : Int32) (v3 : Int32) (v4 : Int32) (v5 : Int32) (S : Mem) : Option ((Int32 × Int32 × Mem) ⊕ ((Int32 × Mem) ⊕ (Mem))) :=
if v3 ≤ v5 then
some (.inr (.inr (S)))
else
bnp (f8_leftAfter N v4 S) fun r4 =>
bnp (f3_shownIn N r4 v1 S) fun r5 =>
bnp (f8_weightIn N r4 v2 S) fun r6 =>
bnd (f3_isTorn_53 N r5 r6 S) fun r7 S8 =>
if r7 = 0 then
lt_ (v5 + (1 : Int32)) fun x9 =>
some (.inl (r4, x9, S8))
else
some (.inr (.inl (((0 : Int32), S8))))
def f3_isSureBy_b69 (N : Nat) (S : Mem) : Option (Int32 × Mem) :=
some (((1 : Int32), S))
def f3_isSureBy (N : Nat) (a1 : Int32) (a2 : Int32) (S : Mem) : Option (Int32 × Mem) :=
bnd (f5_wipe N 53 20 S) fun r1 S2 =>
bnp (f8_left N S2) fun r3 =>
bnp (lp N (fun s => f3_isSureBy_L21 N a1 a2 r3 s.1 s.2.1 s.2.2) ((-1 : Int32), (0 : Int32), S2)) fun z10 => Sum.elim (fun r => some (r)) (fun x => f3_isSureBy_b69 N x) z10
set_option maxHeartbeats 1000000 in
theorem t3_isSureBy_L21 {E : En} {X : Cx} {Q : State → Prop} {N : Nat} {v1 : Int32} {v2 : Int32} {v3 : Int32} {v4 : Int32} {v5 : Int32} {S : Mem} {o : ((Int32 × Int32 × Mem) ⊕ ((Int32 × Mem) ⊕ (Mem)))} (hF : Fx E X cX3_isSureBy RX3 6 (some .boolean) 2) (h : f3_isSureBy_L21 N v1 v2 v3 v4 v5 S = some o) (hC : Sum.elim (fun (s : (Int32 × Int32 × Mem)) => J E X Q s.2.2 21 [(0, .ref (eA E 50)), (1, .int v1), (2, .int v2), (3, .int v3), (4, .int s.1), (5, .int s.2.1)] []) (Sum.elim (fun (r : (Int32 × Mem)) => Q = RQ E X (some (.int r.1)) r.2) (fun (x : (Mem)) => J E X Q x 69 [] [])) o) : J E X Q S 21 [(0, .ref (eA E 50)), (1, .int v1), (2, .int v2), (3, .int v3), (4, .int v4), (5, .int v5)] [] := by
  unfold f3_isSureBy_L21 at h
  refine j_iload hF 5 rfl dX3_isSureBy_21 ?_
  refine j_iload_n hF rfl 3 rfl dX3_isSureBy_23 ?_
  refine j_icmp_ge (tgt := 69) hF h (by decide) dX3_isSureBy_24 (fun h => ?_) (fun h => ?_)
  · obtain rfl := ret1 h
    refine j_sub (lv' := []) hF [] rfl ?_
    exact hC
  · refine j_aload_n hF rfl 0 rfl dX3_isSureBy_27 ?_
    refine gf3_1 hF (by decide) (s_50 E _) rfl bw_1_210 dX3_isSureBy_28 ?_
    refine j_iload hF 4 rfl dX3_isSureBy_31 ?_
    obtain ⟨r4, hr4, h⟩ := bnp_some h
    refine j_callV_i (As := [.int v4]) (st := []) hF rfl mv_8_leftAfter (by decide) (s_39 E _) rfl bw_3_174 rfl (by decide) (Nat.le_of_ble_eq_true rfl) dX3_isSureBy_33 (c8_leftAfter hr4) ?_
    refine j_istore (lv' := [(4, .int r4), (0, .ref (eA E 50)), (1, .int v1), (2, .int v2), (3, .int v3), (5, .int v5)]) hF (by decide) rfl dX3_isSureBy_36 ?_
    refine j_aload_n hF rfl 1 rfl dX3_isSureBy_38 ?_
    refine gf3_3 hF (by decide) (s_50 E _) rfl bw_1_212 dX3_isSureBy_39 ?_
    refine j_aload_n hF rfl 1 rfl dX3_isSureBy_42 ?_
    refine j_iload hF 0 rfl dX3_isSureBy_43 ?_
    refine j_iload_n hF rfl 2 rfl dX3_isSureBy_45 ?_
    obtain ⟨r5, hr5, h⟩ := bnp_some h
    refine j_callV_i (As := [.int r4, .int v1]) (st := [.ref (eA E 53)]) hF rfl mv_3_shownIn (by decide) (s_50 E _) rfl bw_3_178 rfl (by decide) (Nat.le_of_ble_eq_true rfl) dX3_isSureBy_46 (c3_shownIn hr5) ?_
    refine j_iload hF 0 rfl dX3_isSureBy_49 ?_
    refine j_iload_n hF rfl 3 rfl dX3_isSureBy_51 ?_
    obtain ⟨r6, hr6, h⟩ := bnp_some h
    refine j_callS_i (As := [.int r4, .int v2]) (st := [.int r5, .ref (eA E 53)]) hF rfl mv_8_weightIn bw_3_206 rfl (by decide) (Nat.le_of_ble_eq_true rfl) dX3_isSureBy_52 (c8_weightIn hr6) ?_
    obtain ⟨r7, S8, hr7, h⟩ := bnd_some h
    refine j_callS_i (As := [.ref (eA E 53), .int r5, .int r6]) (st := []) hF rfl mv_3_isTorn bw_3_207 rfl (by decide) (Nat.le_of_ble_eq_true rfl) dX3_isSureBy_55 (c3_isTorn_53 hr7) ?_
    refine j_if_eq (tgt := 63) hF h (by decide) dX3_isSureBy_58 (fun h => ?_) (fun h => ?_)
    · refine j_iinc (v := (v5 + (1 : Int32))) (lv' := [(5, .int (v5 + (1 : Int32))), (4, .int r4), (0, .ref (eA E 50)), (1, .int v1), (2, .int v2), (3, .int v3)]) (q := 5) hF rfl (congrArg (fun z => v5 + z) (by decide)) (by decide) rfl dX3_isSureBy_63 ?_
      refine j_nmL h (fun x9 h => ?_)
      refine j_goto (tgt := 21) hF (by decide) dX3_isSureBy_66 ?_
      obtain rfl := ret1 h
      refine j_sub (lv' := [(0, .ref (eA E 50)), (1, .int v1), (2, .int v2), (3, .int v3), (4, .int r4), (5, .int x9)]) hF [2, 3, 4, 5, 1, 0] rfl ?_
      exact hC
    · refine j_iconst (v := (0 : Int32)) hF (by decide) dX3_isSureBy_61 ?_
      obtain rfl := ret1 h
      exact j_ret_boolean hF (by decide) hC dX3_isSureBy_62
set_option maxHeartbeats 1000000 in
theorem t3_isSureBy_b69 {E : En} {X : Cx} {Q : State → Prop} {N : Nat} {S : Mem} {o : (Int32 × Mem)} (hF : Fx E X cX3_isSureBy RX3 6 (some .boolean) 2) (h : f3_isSureBy_b69 N S = some o) (hC : Q = RQ E X (some (.int o.1)) o.2) : J E X Q S 69 [] [] := by
  unfold f3_isSureBy_b69 at h
  refine j_iconst (v := (1 : Int32)) hF (by decide) dX3_isSureBy_69 ?_
  obtain rfl := ret1 h
  exact j_ret_boolean hF (by decide) hC dX3_isSureBy_70
set_option maxHeartbeats 1000000 in
theorem t3_isSureBy {E : En} {X : Cx} {Q : State → Prop} {N : Nat} {a1 : Int32} {a2 : Int32} {S : Mem} {o : (Int32 × Mem)} (hF : Fx E X cX3_isSureBy RX3 6 (some .boolean) 2) (h : f3_isSureBy N a1 a2 S = some o) (hC : Q = RQ E X (some (.int o.1)) o.2) : J E X Q S 0 [(0, .ref (eA E 50)), (1, .int a1), (2, .int a2)] [] := by
  unfold f3_isSureBy at h
  refine j_aload_n hF rfl 0 rfl dX3_isSureBy_0 ?_
  refine gf3_3 hF (by decide) (s_50 E _) rfl bw_1_212 dX3_isSureBy_1 ?_
  obtain ⟨r1, S2, hr1, h⟩ := bnd_some h
  refine j_callV_v (As := []) (st := []) hF rfl mv_5_wipe (by decide) (s_53 E _) rfl bw_3_172 rfl (by decide) (Nat.le_of_ble_eq_true rfl) dX3_isSureBy_4 (c5_wipe (ra_53 E) hr1) ?_
  refine j_aload_n hF rfl 0 rfl dX3_isSureBy_7 ?_
  refine gf3_1 hF (by decide) (s_50 E _) rfl bw_1_210 dX3_isSureBy_8 ?_
  obtain ⟨r3, hr3, h⟩ := bnp_some h
  refine j_callV_i (As := []) (st := []) hF rfl mv_8_left (by decide) (s_39 E _) rfl bw_3_173 rfl (by decide) (Nat.le_of_ble_eq_true rfl) dX3_isSureBy_11 (c8_left hr3) ?_
  refine j_istore_n (lv' := [(3, .int r3), (0, .ref (eA E 50)), (1, .int a1), (2, .int a2)]) hF rfl (by decide) rfl dX3_isSureBy_14 ?_
  refine j_iconst (v := (-1 : Int32)) hF (by decide) dX3_isSureBy_15 ?_
  refine j_istore (lv' := [(4, .int (-1 : Int32)), (3, .int r3), (0, .ref (eA E 50)), (1, .int a1), (2, .int a2)]) hF (by decide) rfl dX3_isSureBy_16 ?_
  refine j_iconst (v := (0 : Int32)) hF (by decide) dX3_isSureBy_18 ?_
  refine j_istore (lv' := [(5, .int (0 : Int32)), (4, .int (-1 : Int32)), (3, .int r3), (0, .ref (eA E 50)), (1, .int a1), (2, .int a2)]) hF (by decide) rfl dX3_isSureBy_19 ?_
  obtain ⟨z10, hz10, h⟩ := bnp_some h
  refine j_sub (lv' := [(0, .ref (eA E 50)), (1, .int a1), (2, .int a2), (3, .int r3), (4, .int (-1 : Int32)), (5, .int (0 : Int32))]) hF [3, 4, 5, 2, 1, 0] rfl ?_
  have hx : (Sum.elim (fun (r : (Int32 × Mem)) => Q = RQ E X (some (.int r.1)) r.2) (fun (x : (Mem)) => J E X Q x 69 [] [])) z10 := by
    cases z10 with
    | inl rr =>
      have h : some (rr) = some o := h
      obtain rfl := ret1 h
      exact hC
    | inr x =>
      have h : f3_isSureBy_b69 N x = some o := h
      exact t3_isSureBy_b69 hF h hC
  exact lp_rule (Jh := fun (s : (Int32 × Int32 × Mem)) => J E X Q s.2.2 21 [(0, .ref (eA E 50)), (1, .int a1), (2, .int a2), (3, .int r3), (4, .int s.1), (5, .int s.2.1)] []) (C := Sum.elim (fun (r : (Int32 × Mem)) => Q = RQ E X (some (.int r.1)) r.2) (fun (x : (Mem)) => J E X Q x 69 [] [])) (fun s o h hC => t3_isSureBy_L21 hF h hC) N ((-1 : Int32), (0 : Int32), S2) z10 hz10 hx
set_option maxHeartbeats 1000000 in
theorem c3_isSureBy {E : En} {N : Nat} {a1 : Int32} {a2 : Int32} {S So : Mem} {ro : Int32} (h : f3_isSureBy N a1 a2 S = some (ro, So)) : CT E yX3_isSureBy cX3_isSureBy 6 (some .boolean) 2 [.ref (eA E 50), .int a1, .int a2] S (some (.int ro)) So :=
  CT_of (by decide) (Nat.le_of_ble_eq_true rfl) (fun X hF => t3_isSureBy hF h rfl)
def f3_isTorn_55 (N : Nat) (a1 : Int32) (a2 : Int32) (S : Mem) : Option (Int32 × Mem) :=
bnd (f5_join N 55 400 a1 ((1 : Int32) <<< (a2 &&& 31)) S) fun r1 S2 =>
bnp (f5_get N 55 400 a1 S2) fun r3 =>
bnp (fJ6_bitCount N r3 S2) fun r4 =>
if r4 ≤ (1 : Int32) then
some (((0 : Int32), S2))
else
some (((1 : Int32), S2))
set_option maxHeartbeats 1000000 in
theorem t3_isTorn_55 {E : En} {X : Cx} {Q : State → Prop} {N : Nat} {a1 : Int32} {a2 : Int32} {S : Mem} {o : (Int32 × Mem)} (hF : Fx E X cX3_isTorn RX3 3 (some .boolean) 1) (h : f3_isTorn_55 N a1 a2 S = some o) (hC : Q = RQ E X (some (.int o.1)) o.2) : J E X Q S 0 [(0, .ref (eA E 55)), (1, .int a1), (2, .int a2)] [] := by
  unfold f3_isTorn_55 at h
  refine j_aload_n hF rfl 0 rfl dX3_isTorn_0 ?_
  refine j_iload_n hF rfl 1 rfl dX3_isTorn_1 ?_
  refine j_iconst (v := (1 : Int32)) hF (by decide) dX3_isTorn_2 ?_
  refine j_iload_n hF rfl 2 rfl dX3_isTorn_3 ?_
  refine j_ishl hF dX3_isTorn_4 ?_
  obtain ⟨r1, S2, hr1, h⟩ := bnd_some h
  refine j_callV_v (As := [.int a1, .int ((1 : Int32) <<< (a2 &&& 31))]) (st := []) hF rfl mv_5_join (by decide) (s_55 E _) rfl bw_3_210 rfl (by decide) (Nat.le_of_ble_eq_true rfl) dX3_isTorn_5 (c5_join (ra_55 E) hr1) ?_
  refine j_aload_n hF rfl 0 rfl dX3_isTorn_8 ?_
  refine j_iload_n hF rfl 1 rfl dX3_isTorn_9 ?_
  obtain ⟨r3, hr3, h⟩ := bnp_some h
  refine j_callV_i (As := [.int a1]) (st := []) hF rfl mv_5_get (by decide) (s_55 E _) rfl bw_3_187 rfl (by decide) (Nat.le_of_ble_eq_true rfl) dX3_isTorn_10 (c5_get (ra_55 E) hr3) ?_
  obtain ⟨r4, hr4, h⟩ := bnp_some h
  refine j_callS_i (As := [.int r3]) (st := []) hF rfl mv_J6_bitCount bw_3_211 rfl (by decide) (Nat.le_of_ble_eq_true rfl) dX3_isTorn_13 (cJ6_bitCount hr4) ?_
  refine j_iconst (v := (1 : Int32)) hF (by decide) dX3_isTorn_16 ?_
  refine j_icmp_le (tgt := 24) hF h (by decide) dX3_isTorn_17 (fun h => ?_) (fun h => ?_)
  · refine j_iconst (v := (0 : Int32)) hF (by decide) dX3_isTorn_24 ?_
    obtain rfl := ret1 h
    exact j_ret_boolean hF (by decide) hC dX3_isTorn_25
  · refine j_iconst (v := (1 : Int32)) hF (by decide) dX3_isTorn_20 ?_
    refine j_goto (tgt := 25) hF (by decide) dX3_isTorn_21 ?_
    obtain rfl := ret1 h
    exact j_ret_boolean hF (by decide) hC dX3_isTorn_25
set_option maxHeartbeats 1000000 in
theorem c3_isTorn_55 {E : En} {N : Nat} {a1 : Int32} {a2 : Int32} {S So : Mem} {ro : Int32} (h : f3_isTorn_55 N a1 a2 S = some (ro, So)) : CT E yX3_isTorn cX3_isTorn 3 (some .boolean) 1 [.ref (eA E 55), .int a1, .int a2] S (some (.int ro)) So :=
  CT_of (by decide) (Nat.le_of_ble_eq_true rfl) (fun X hF => t3_isTorn_55 hF h rfl)
def f3_isSureByNoneAndAlone_L20 (N : Nat) (v1 : Int32) (v2 : Int32) (v3 : Int32) (v4 : Int32) (S : Mem) : Option ((Int32 × Int32 × Mem) ⊕ ((Int32 × Mem) ⊕ (Mem))) :=
if v2 ≤ v4 then
some (.inr (.inr (S)))
else
bnp (f8_leftAfter N v3 S) fun r4 =>
bnp (f3_shownIn N r4 (0 : Int32) S) fun r5 =>
bnp (f3_shownIn N r4 ((1 : Int32) <<< (v1 &&& 31)) S) fun r6 =>
lt_ ((r5 * (20 : Int32)) + r6) fun x7 =>
bnp (f8_weightIn N r4 v1 S) fun r8 =>
bnd (f3_isTorn_55 N x7 r8 S) fun r9 S10 =>
if r9 = 0 then
lt_ (v4 + (1 : Int32)) fun x11 =>
some (.inl (r4, x11, S10))
else
some (.inr (.inl (((0 : Int32), S10))))
def f3_isSureByNoneAndAlone_b80 (N : Nat) (S : Mem) : Option (Int32 × Mem) :=
some (((1 : Int32), S))
def f3_isSureByNoneAndAlone (N : Nat) (a1 : Int32) (S : Mem) : Option (Int32 × Mem) :=
bnd (f5_wipe N 55 400 S) fun r1 S2 =>
bnp (f8_left N S2) fun r3 =>
bnp (lp N (fun s => f3_isSureByNoneAndAlone_L20 N a1 r3 s.1 s.2.1 s.2.2) ((-1 : Int32), (0 : Int32), S2)) fun z12 => Sum.elim (fun r => some (r)) (fun x => f3_isSureByNoneAndAlone_b80 N x) z12
set_option maxHeartbeats 1000000 in
theorem t3_isSureByNoneAndAlone_L20 {E : En} {X : Cx} {Q : State → Prop} {N : Nat} {v1 : Int32} {v2 : Int32} {v3 : Int32} {v4 : Int32} {S : Mem} {o : ((Int32 × Int32 × Mem) ⊕ ((Int32 × Mem) ⊕ (Mem)))} (hF : Fx E X cX3_isSureByNoneAndAlone RX3 6 (some .boolean) 2) (h : f3_isSureByNoneAndAlone_L20 N v1 v2 v3 v4 S = some o) (hC : Sum.elim (fun (s : (Int32 × Int32 × Mem)) => J E X Q s.2.2 20 [(0, .ref (eA E 50)), (1, .int v1), (2, .int v2), (3, .int s.1), (4, .int s.2.1)] []) (Sum.elim (fun (r : (Int32 × Mem)) => Q = RQ E X (some (.int r.1)) r.2) (fun (x : (Mem)) => J E X Q x 80 [] [])) o) : J E X Q S 20 [(0, .ref (eA E 50)), (1, .int v1), (2, .int v2), (3, .int v3), (4, .int v4)] [] := by
  unfold f3_isSureByNoneAndAlone_L20 at h
  refine j_iload hF 4 rfl dX3_isSureByNoneAndAlone_20 ?_
  refine j_iload_n hF rfl 2 rfl dX3_isSureByNoneAndAlone_22 ?_
  refine j_icmp_ge (tgt := 80) hF h (by decide) dX3_isSureByNoneAndAlone_23 (fun h => ?_) (fun h => ?_)
  · obtain rfl := ret1 h
    refine j_sub (lv' := []) hF [] rfl ?_
    exact hC
  · refine j_aload_n hF rfl 0 rfl dX3_isSureByNoneAndAlone_26 ?_
    refine gf3_1 hF (by decide) (s_50 E _) rfl bw_1_210 dX3_isSureByNoneAndAlone_27 ?_
    refine j_iload_n hF rfl 3 rfl dX3_isSureByNoneAndAlone_30 ?_
    obtain ⟨r4, hr4, h⟩ := bnp_some h
    refine j_callV_i (As := [.int v3]) (st := []) hF rfl mv_8_leftAfter (by decide) (s_39 E _) rfl bw_3_174 rfl (by decide) (Nat.le_of_ble_eq_true rfl) dX3_isSureByNoneAndAlone_31 (c8_leftAfter hr4) ?_
    refine j_istore_n (lv' := [(3, .int r4), (0, .ref (eA E 50)), (1, .int v1), (2, .int v2), (4, .int v4)]) hF rfl (by decide) rfl dX3_isSureByNoneAndAlone_34 ?_
    refine j_aload_n hF rfl 1 rfl dX3_isSureByNoneAndAlone_35 ?_
    refine j_iload_n hF rfl 0 rfl dX3_isSureByNoneAndAlone_36 ?_
    refine j_iconst (v := (0 : Int32)) hF (by decide) dX3_isSureByNoneAndAlone_37 ?_
    obtain ⟨r5, hr5, h⟩ := bnp_some h
    refine j_callV_i (As := [.int r4, .int (0 : Int32)]) (st := []) hF rfl mv_3_shownIn (by decide) (s_50 E _) rfl bw_3_178 rfl (by decide) (Nat.le_of_ble_eq_true rfl) dX3_isSureByNoneAndAlone_38 (c3_shownIn hr5) ?_
    refine j_bipush (v := (20 : Int32)) hF (by decide) dX3_isSureByNoneAndAlone_41 ?_
    refine j_imul hF dX3_isSureByNoneAndAlone_43 ?_
    refine j_aload_n hF rfl 1 rfl dX3_isSureByNoneAndAlone_44 ?_
    refine j_iload_n hF rfl 0 rfl dX3_isSureByNoneAndAlone_45 ?_
    refine j_iconst (v := (1 : Int32)) hF (by decide) dX3_isSureByNoneAndAlone_46 ?_
    refine j_iload_n hF rfl 2 rfl dX3_isSureByNoneAndAlone_47 ?_
    refine j_ishl hF dX3_isSureByNoneAndAlone_48 ?_
    obtain ⟨r6, hr6, h⟩ := bnp_some h
    refine j_callV_i (As := [.int r4, .int ((1 : Int32) <<< (v1 &&& 31))]) (st := [.int (r5 * (20 : Int32))]) hF rfl mv_3_shownIn (by decide) (s_50 E _) rfl bw_3_178 rfl (by decide) (Nat.le_of_ble_eq_true rfl) dX3_isSureByNoneAndAlone_49 (c3_shownIn hr6) ?_
    refine j_iadd hF dX3_isSureByNoneAndAlone_52 ?_
    refine j_istore (lv' := [(5, .int ((r5 * (20 : Int32)) + r6)), (3, .int r4), (0, .ref (eA E 50)), (1, .int v1), (2, .int v2), (4, .int v4)]) hF (by decide) rfl dX3_isSureByNoneAndAlone_53 ?_
    refine j_nmL h (fun x7 h => ?_)
    refine j_aload_n hF rfl 2 rfl dX3_isSureByNoneAndAlone_55 ?_
    refine gf3_4 hF (by decide) (s_50 E _) rfl bw_1_213 dX3_isSureByNoneAndAlone_56 ?_
    refine j_iload hF 0 rfl dX3_isSureByNoneAndAlone_59 ?_
    refine j_iload_n hF rfl 1 rfl dX3_isSureByNoneAndAlone_61 ?_
    refine j_iload_n hF rfl 3 rfl dX3_isSureByNoneAndAlone_62 ?_
    obtain ⟨r8, hr8, h⟩ := bnp_some h
    refine j_callS_i (As := [.int r4, .int v1]) (st := [.int x7, .ref (eA E 55)]) hF rfl mv_8_weightIn bw_3_206 rfl (by decide) (Nat.le_of_ble_eq_true rfl) dX3_isSureByNoneAndAlone_63 (c8_weightIn hr8) ?_
    obtain ⟨r9, S10, hr9, h⟩ := bnd_some h
    refine j_callS_i (As := [.ref (eA E 55), .int x7, .int r8]) (st := []) hF rfl mv_3_isTorn bw_3_207 rfl (by decide) (Nat.le_of_ble_eq_true rfl) dX3_isSureByNoneAndAlone_66 (c3_isTorn_55 hr9) ?_
    refine j_if_eq (tgt := 74) hF h (by decide) dX3_isSureByNoneAndAlone_69 (fun h => ?_) (fun h => ?_)
    · refine j_iinc (v := (v4 + (1 : Int32))) (lv' := [(4, .int (v4 + (1 : Int32))), (5, .int x7), (3, .int r4), (0, .ref (eA E 50)), (1, .int v1), (2, .int v2)]) (q := 5) hF rfl (congrArg (fun z => v4 + z) (by decide)) (by decide) rfl dX3_isSureByNoneAndAlone_74 ?_
      refine j_nmL h (fun x11 h => ?_)
      refine j_goto (tgt := 20) hF (by decide) dX3_isSureByNoneAndAlone_77 ?_
      obtain rfl := ret1 h
      refine j_sub (lv' := [(0, .ref (eA E 50)), (1, .int v1), (2, .int v2), (3, .int r4), (4, .int x11)]) hF [3, 4, 5, 2, 0] rfl ?_
      exact hC
    · refine j_iconst (v := (0 : Int32)) hF (by decide) dX3_isSureByNoneAndAlone_72 ?_
      obtain rfl := ret1 h
      exact j_ret_boolean hF (by decide) hC dX3_isSureByNoneAndAlone_73
set_option maxHeartbeats 1000000 in
theorem t3_isSureByNoneAndAlone_b80 {E : En} {X : Cx} {Q : State → Prop} {N : Nat} {S : Mem} {o : (Int32 × Mem)} (hF : Fx E X cX3_isSureByNoneAndAlone RX3 6 (some .boolean) 2) (h : f3_isSureByNoneAndAlone_b80 N S = some o) (hC : Q = RQ E X (some (.int o.1)) o.2) : J E X Q S 80 [] [] := by
  unfold f3_isSureByNoneAndAlone_b80 at h
  refine j_iconst (v := (1 : Int32)) hF (by decide) dX3_isSureByNoneAndAlone_80 ?_
  obtain rfl := ret1 h
  exact j_ret_boolean hF (by decide) hC dX3_isSureByNoneAndAlone_81
set_option maxHeartbeats 1000000 in
theorem t3_isSureByNoneAndAlone {E : En} {X : Cx} {Q : State → Prop} {N : Nat} {a1 : Int32} {S : Mem} {o : (Int32 × Mem)} (hF : Fx E X cX3_isSureByNoneAndAlone RX3 6 (some .boolean) 2) (h : f3_isSureByNoneAndAlone N a1 S = some o) (hC : Q = RQ E X (some (.int o.1)) o.2) : J E X Q S 0 [(0, .ref (eA E 50)), (1, .int a1)] [] := by
  unfold f3_isSureByNoneAndAlone at h
  refine j_aload_n hF rfl 0 rfl dX3_isSureByNoneAndAlone_0 ?_
  refine gf3_4 hF (by decide) (s_50 E _) rfl bw_1_213 dX3_isSureByNoneAndAlone_1 ?_
  obtain ⟨r1, S2, hr1, h⟩ := bnd_some h
  refine j_callV_v (As := []) (st := []) hF rfl mv_5_wipe (by decide) (s_55 E _) rfl bw_3_172 rfl (by decide) (Nat.le_of_ble_eq_true rfl) dX3_isSureByNoneAndAlone_4 (c5_wipe (ra_55 E) hr1) ?_
  refine j_aload_n hF rfl 0 rfl dX3_isSureByNoneAndAlone_7 ?_
  refine gf3_1 hF (by decide) (s_50 E _) rfl bw_1_210 dX3_isSureByNoneAndAlone_8 ?_
  obtain ⟨r3, hr3, h⟩ := bnp_some h
  refine j_callV_i (As := []) (st := []) hF rfl mv_8_left (by decide) (s_39 E _) rfl bw_3_173 rfl (by decide) (Nat.le_of_ble_eq_true rfl) dX3_isSureByNoneAndAlone_11 (c8_left hr3) ?_
  refine j_istore_n (lv' := [(2, .int r3), (0, .ref (eA E 50)), (1, .int a1)]) hF rfl (by decide) rfl dX3_isSureByNoneAndAlone_14 ?_
  refine j_iconst (v := (-1 : Int32)) hF (by decide) dX3_isSureByNoneAndAlone_15 ?_
  refine j_istore_n (lv' := [(3, .int (-1 : Int32)), (2, .int r3), (0, .ref (eA E 50)), (1, .int a1)]) hF rfl (by decide) rfl dX3_isSureByNoneAndAlone_16 ?_
  refine j_iconst (v := (0 : Int32)) hF (by decide) dX3_isSureByNoneAndAlone_17 ?_
  refine j_istore (lv' := [(4, .int (0 : Int32)), (3, .int (-1 : Int32)), (2, .int r3), (0, .ref (eA E 50)), (1, .int a1)]) hF (by decide) rfl dX3_isSureByNoneAndAlone_18 ?_
  obtain ⟨z12, hz12, h⟩ := bnp_some h
  refine j_sub (lv' := [(0, .ref (eA E 50)), (1, .int a1), (2, .int r3), (3, .int (-1 : Int32)), (4, .int (0 : Int32))]) hF [3, 4, 2, 1, 0] rfl ?_
  have hx : (Sum.elim (fun (r : (Int32 × Mem)) => Q = RQ E X (some (.int r.1)) r.2) (fun (x : (Mem)) => J E X Q x 80 [] [])) z12 := by
    cases z12 with
    | inl rr =>
      have h : some (rr) = some o := h
      obtain rfl := ret1 h
      exact hC
    | inr x =>
      have h : f3_isSureByNoneAndAlone_b80 N x = some o := h
      exact t3_isSureByNoneAndAlone_b80 hF h hC
  exact lp_rule (Jh := fun (s : (Int32 × Int32 × Mem)) => J E X Q s.2.2 20 [(0, .ref (eA E 50)), (1, .int a1), (2, .int r3), (3, .int s.1), (4, .int s.2.1)] []) (C := Sum.elim (fun (r : (Int32 × Mem)) => Q = RQ E X (some (.int r.1)) r.2) (fun (x : (Mem)) => J E X Q x 80 [] [])) (fun s o h hC => t3_isSureByNoneAndAlone_L20 hF h hC) N ((-1 : Int32), (0 : Int32), S2) z12 hz12 hx
set_option maxHeartbeats 1000000 in
theorem c3_isSureByNoneAndAlone {E : En} {N : Nat} {a1 : Int32} {S So : Mem} {ro : Int32} (h : f3_isSureByNoneAndAlone N a1 S = some (ro, So)) : CT E yX3_isSureByNoneAndAlone cX3_isSureByNoneAndAlone 6 (some .boolean) 2 [.ref (eA E 50), .int a1] S (some (.int ro)) So :=
  CT_of (by decide) (Nat.le_of_ble_eq_true rfl) (fun X hF => t3_isSureByNoneAndAlone hF h rfl)
