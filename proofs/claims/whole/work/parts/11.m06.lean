def f10_copy_L14 (N : Nat) (v1 : Int32) (v2 : Int32) (v3 : Int32) (S : Mem) : Option ((Int32 × Mem) ⊕ (Mem)) :=
if (36 : Int32) ≤ v3 then
some (.inr (S))
else
if (((36 : Int32) * v1) + v3) < 0 ∨ 108 ≤ (((36 : Int32) * v1) + v3).toNatClampNeg then none else
lt_ ((S 63).1 (((36 : Int32) * v1) + v3).toNatClampNeg) fun x3 =>
if (((36 : Int32) * v2) + v3) < 0 ∨ 108 ≤ (((36 : Int32) * v2) + v3).toNatClampNeg then none else
lt_ (wr S 63 (((36 : Int32) * v2) + v3).toNatClampNeg x3) fun S4 =>
lt_ (v3 + (1 : Int32)) fun x5 =>
some (.inl (x5, S4))
def f10_copy_b48 (N : Nat) (S : Mem) : Option (Unit × Mem) :=
some (((), S))
def f10_copy (N : Nat) (a1 : Int32) (a2 : Int32) (S : Mem) : Option (Unit × Mem) :=
if a1 < 0 ∨ 3 ≤ a1.toNatClampNeg then none else
lt_ ((S 62).1 a1.toNatClampNeg) fun x1 =>
if a2 < 0 ∨ 3 ≤ a2.toNatClampNeg then none else
lt_ (wr S 62 a2.toNatClampNeg x1) fun S2 =>
bnp (lp N (fun s => f10_copy_L14 N a1 a2 s.1 s.2) ((0 : Int32), S2)) fun z6 =>
f10_copy_b48 N z6
set_option maxHeartbeats 1000000 in
theorem t10_copy_L14 {E : En} {X : Cx} {Q : State → Prop} {N : Nat} {v1 : Int32} {v2 : Int32} {v3 : Int32} {S : Mem} {o : ((Int32 × Mem) ⊕ (Mem))} (hF : Fx E X cX10_copy RX10 4 none 0) (h : f10_copy_L14 N v1 v2 v3 S = some o) (hC : Sum.elim (fun (s : (Int32 × Mem)) => J E X Q s.2 14 [(0, .ref (eA E 57)), (1, .int v1), (2, .int v2), (3, .int s.1)] []) (fun (x : (Mem)) => J E X Q x 48 [] []) o) : J E X Q S 14 [(0, .ref (eA E 57)), (1, .int v1), (2, .int v2), (3, .int v3)] [] := by
  unfold f10_copy_L14 at h
  refine j_iload_n hF rfl 3 rfl dX10_copy_14 ?_
  refine j_bipush (v := (36 : Int32)) hF (by decide) dX10_copy_15 ?_
  refine j_icmp_ge (tgt := 48) hF h (by decide) dX10_copy_17 (fun h => ?_) (fun h => ?_)
  · obtain rfl := ret1 h
    refine j_sub (lv' := []) hF [] rfl ?_
    exact hC
  · refine j_aload_n hF rfl 0 rfl dX10_copy_20 ?_
    refine gf10_13 hF (by decide) (s_57 E _) rfl bw_4_148 dX10_copy_21 ?_
    refine j_bipush (v := (36 : Int32)) hF (by decide) dX10_copy_24 ?_
    refine j_iload_n hF rfl 2 rfl dX10_copy_26 ?_
    refine j_imul hF dX10_copy_27 ?_
    refine j_iload_n hF rfl 3 rfl dX10_copy_28 ?_
    refine j_iadd hF dX10_copy_29 ?_
    refine j_aload_n hF rfl 0 rfl dX10_copy_30 ?_
    refine gf10_13 hF (by decide) (s_57 E _) rfl bw_4_148 dX10_copy_31 ?_
    refine j_bipush (v := (36 : Int32)) hF (by decide) dX10_copy_34 ?_
    refine j_iload_n hF rfl 1 rfl dX10_copy_36 ?_
    refine j_imul hF dX10_copy_37 ?_
    refine j_iload_n hF rfl 3 rfl dX10_copy_38 ?_
    refine j_iadd hF dX10_copy_39 ?_
    refine j_iald hF (by decide) (s_63 E) h dX10_copy_40 (fun h => ?_)
    refine j_nmT h (fun x3 h => ?_)
    refine j_iast hF (by decide) (s_63 E) h dX10_copy_41 (fun h => ?_)
    refine j_nmM h (fun S4 h => ?_)
    refine j_iinc (v := (v3 + (1 : Int32))) (lv' := [(3, .int (v3 + (1 : Int32))), (0, .ref (eA E 57)), (1, .int v1), (2, .int v2)]) (q := 3) hF rfl (congrArg (fun z => v3 + z) (by decide)) (by decide) rfl dX10_copy_42 ?_
    refine j_nmL h (fun x5 h => ?_)
    refine j_goto (tgt := 14) hF (by decide) dX10_copy_45 ?_
    obtain rfl := ret1 h
    refine j_sub (lv' := [(0, .ref (eA E 57)), (1, .int v1), (2, .int v2), (3, .int x5)]) hF [1, 2, 3, 0] rfl ?_
    exact hC
set_option maxHeartbeats 1000000 in
theorem t10_copy_b48 {E : En} {X : Cx} {Q : State → Prop} {N : Nat} {S : Mem} {o : (Unit × Mem)} (hF : Fx E X cX10_copy RX10 4 none 0) (h : f10_copy_b48 N S = some o) (hC : Q = RQ E X (none) o.2) : J E X Q S 48 [] [] := by
  unfold f10_copy_b48 at h
  obtain rfl := ret1 h
  exact j_vret hF hC dX10_copy_48
set_option maxHeartbeats 1000000 in
theorem t10_copy {E : En} {X : Cx} {Q : State → Prop} {N : Nat} {a1 : Int32} {a2 : Int32} {S : Mem} {o : (Unit × Mem)} (hF : Fx E X cX10_copy RX10 4 none 0) (h : f10_copy N a1 a2 S = some o) (hC : Q = RQ E X (none) o.2) : J E X Q S 0 [(0, .ref (eA E 57)), (1, .int a1), (2, .int a2)] [] := by
  unfold f10_copy at h
  refine j_aload_n hF rfl 0 rfl dX10_copy_0 ?_
  refine gf10_12 hF (by decide) (s_57 E _) rfl bw_4_147 dX10_copy_1 ?_
  refine j_iload_n hF rfl 2 rfl dX10_copy_4 ?_
  refine j_aload_n hF rfl 0 rfl dX10_copy_5 ?_
  refine gf10_12 hF (by decide) (s_57 E _) rfl bw_4_147 dX10_copy_6 ?_
  refine j_iload_n hF rfl 1 rfl dX10_copy_9 ?_
  refine j_iald hF (by decide) (s_62 E) h dX10_copy_10 (fun h => ?_)
  refine j_nmT h (fun x1 h => ?_)
  refine j_iast hF (by decide) (s_62 E) h dX10_copy_11 (fun h => ?_)
  refine j_nmM h (fun S2 h => ?_)
  refine j_iconst (v := (0 : Int32)) hF (by decide) dX10_copy_12 ?_
  refine j_istore_n (lv' := [(3, .int (0 : Int32)), (0, .ref (eA E 57)), (1, .int a1), (2, .int a2)]) hF rfl (by decide) rfl dX10_copy_13 ?_
  obtain ⟨z6, hz6, h⟩ := bnp_some h
  refine j_sub (lv' := [(0, .ref (eA E 57)), (1, .int a1), (2, .int a2), (3, .int (0 : Int32))]) hF [1, 2, 3, 0] rfl ?_
  have hx : (fun (x : (Mem)) => J E X Q x 48 [] []) z6 := by
    exact t10_copy_b48 hF h hC
  exact lp_rule (Jh := fun (s : (Int32 × Mem)) => J E X Q s.2 14 [(0, .ref (eA E 57)), (1, .int a1), (2, .int a2), (3, .int s.1)] []) (C := fun (x : (Mem)) => J E X Q x 48 [] []) (fun s o h hC => t10_copy_L14 hF h hC) N ((0 : Int32), S2) z6 hz6 hx
set_option maxHeartbeats 1000000 in
theorem c10_copy {E : En} {N : Nat} {a1 : Int32} {a2 : Int32} {S So : Mem} {ro : Unit} (h : f10_copy N a1 a2 S = some (ro, So)) : CT E yX10_copy cX10_copy 4 none 0 [.ref (eA E 57), .int a1, .int a2] S (none) So :=
  CT_of (by decide) (Nat.le_of_ble_eq_true rfl) (fun X hF => t10_copy hF h rfl)
def f10_keep (N : Nat) (a1 : Int32) (S : Mem) : Option (Int32 × Mem) :=
bnp (f10_in N a1 (0 : Int32) (1 : Int32) S) fun r1 =>
if r1 = 0 then
some (((-1 : Int32), S))
else
bnd (f10_copy N (0 : Int32) ((1 : Int32) + a1) S) fun r2 S3 =>
if a1 < 0 ∨ 2 ≤ a1.toNatClampNeg then none else
lt_ (wr S3 64 a1.toNatClampNeg (vp_nar .boolean (1 : Int32))) fun S4 =>
if (0 : Int32) < 0 ∨ 3 ≤ (0 : Int32).toNatClampNeg then none else
lt_ ((S4 62).1 (0 : Int32).toNatClampNeg) fun x5 =>
some ((x5, S4))
set_option maxHeartbeats 1000000 in
theorem t10_keep {E : En} {X : Cx} {Q : State → Prop} {N : Nat} {a1 : Int32} {S : Mem} {o : (Int32 × Mem)} (hF : Fx E X cX10_keep RX10 2 (some .int) 1) (h : f10_keep N a1 S = some o) (hC : Q = RQ E X (some (.int o.1)) o.2) : J E X Q S 0 [(0, .ref (eA E 57)), (1, .int a1)] [] := by
  unfold f10_keep at h
  refine j_iload_n hF rfl 1 rfl dX10_keep_0 ?_
  refine j_iconst (v := (0 : Int32)) hF (by decide) dX10_keep_1 ?_
  refine j_iconst (v := (1 : Int32)) hF (by decide) dX10_keep_2 ?_
  obtain ⟨r1, hr1, h⟩ := bnp_some h
  refine j_callS_i (As := [.int a1, .int (0 : Int32), .int (1 : Int32)]) (st := []) hF rfl mv_10_in bw_4_201 rfl (by decide) (Nat.le_of_ble_eq_true rfl) dX10_keep_3 (c10_in hr1) ?_
  refine j_if_ne (tgt := 11) hF h (by decide) dX10_keep_6 (fun h => ?_) (fun h => ?_)
  · refine j_aload_n hF rfl 0 rfl dX10_keep_11 ?_
    refine j_iconst (v := (0 : Int32)) hF (by decide) dX10_keep_12 ?_
    refine j_iconst (v := (1 : Int32)) hF (by decide) dX10_keep_13 ?_
    refine j_iload_n hF rfl 1 rfl dX10_keep_14 ?_
    refine j_iadd hF dX10_keep_15 ?_
    obtain ⟨r2, S3, hr2, h⟩ := bnd_some h
    refine j_callV_v (As := [.int (0 : Int32), .int ((1 : Int32) + a1)]) (st := []) hF rfl mv_10_copy (by decide) (s_57 E _) rfl bw_5_146 rfl (by decide) (Nat.le_of_ble_eq_true rfl) dX10_keep_16 (c10_copy hr2) ?_
    refine j_aload_n hF rfl 0 rfl dX10_keep_19 ?_
    refine gf10_14 hF (by decide) (s_57 E _) rfl bw_4_149 dX10_keep_20 ?_
    refine j_iload_n hF rfl 1 rfl dX10_keep_23 ?_
    refine j_iconst (v := (1 : Int32)) hF (by decide) dX10_keep_24 ?_
    refine j_zast hF (by decide) (s_64 E) h dX10_keep_25 (fun h => ?_)
    refine j_nmM h (fun S4 h => ?_)
    refine j_aload_n hF rfl 0 rfl dX10_keep_26 ?_
    refine gf10_12 hF (by decide) (s_57 E _) rfl bw_4_147 dX10_keep_27 ?_
    refine j_iconst (v := (0 : Int32)) hF (by decide) dX10_keep_30 ?_
    refine j_iald hF (by decide) (s_62 E) h dX10_keep_31 (fun h => ?_)
    refine j_nmT h (fun x5 h => ?_)
    obtain rfl := ret1 h
    exact j_iret hF hC dX10_keep_32
  · refine j_iconst (v := (-1 : Int32)) hF (by decide) dX10_keep_9 ?_
    obtain rfl := ret1 h
    exact j_iret hF hC dX10_keep_10
set_option maxHeartbeats 1000000 in
theorem c10_keep {E : En} {N : Nat} {a1 : Int32} {S So : Mem} {ro : Int32} (h : f10_keep N a1 S = some (ro, So)) : CT E yX10_keep cX10_keep 2 (some .int) 1 [.ref (eA E 57), .int a1] S (some (.int ro)) So :=
  CT_of (by decide) (Nat.le_of_ble_eq_true rfl) (fun X hF => t10_keep hF h rfl)
def f10_back (N : Nat) (a1 : Int32) (S : Mem) : Option (Int32 × Mem) :=
bnp (f10_in N a1 (0 : Int32) (1 : Int32) S) fun r1 =>
if r1 = 0 then
some (((-1 : Int32), S))
else
if a1 < 0 ∨ 2 ≤ a1.toNatClampNeg then none else
lt_ ((S 64).1 a1.toNatClampNeg) fun x2 =>
if x2 = 0 then
some (((-2 : Int32), S))
else
bnd (f10_copy N ((1 : Int32) + a1) (0 : Int32) S) fun r3 S4 =>
if (0 : Int32) < 0 ∨ 3 ≤ (0 : Int32).toNatClampNeg then none else
lt_ ((S4 62).1 (0 : Int32).toNatClampNeg) fun x5 =>
some ((x5, S4))
set_option maxHeartbeats 1000000 in
theorem t10_back {E : En} {X : Cx} {Q : State → Prop} {N : Nat} {a1 : Int32} {S : Mem} {o : (Int32 × Mem)} (hF : Fx E X cX10_back RX10 2 (some .int) 1) (h : f10_back N a1 S = some o) (hC : Q = RQ E X (some (.int o.1)) o.2) : J E X Q S 0 [(0, .ref (eA E 57)), (1, .int a1)] [] := by
  unfold f10_back at h
  refine j_iload_n hF rfl 1 rfl dX10_back_0 ?_
  refine j_iconst (v := (0 : Int32)) hF (by decide) dX10_back_1 ?_
  refine j_iconst (v := (1 : Int32)) hF (by decide) dX10_back_2 ?_
  obtain ⟨r1, hr1, h⟩ := bnp_some h
  refine j_callS_i (As := [.int a1, .int (0 : Int32), .int (1 : Int32)]) (st := []) hF rfl mv_10_in bw_4_201 rfl (by decide) (Nat.le_of_ble_eq_true rfl) dX10_back_3 (c10_in hr1) ?_
  refine j_if_ne (tgt := 11) hF h (by decide) dX10_back_6 (fun h => ?_) (fun h => ?_)
  · refine j_aload_n hF rfl 0 rfl dX10_back_11 ?_
    refine gf10_14 hF (by decide) (s_57 E _) rfl bw_4_149 dX10_back_12 ?_
    refine j_iload_n hF rfl 1 rfl dX10_back_15 ?_
    refine j_zald hF (by decide) (s_64 E) h dX10_back_16 (fun h => ?_)
    refine j_nmT h (fun x2 h => ?_)
    refine j_if_ne (tgt := 23) hF h (by decide) dX10_back_17 (fun h => ?_) (fun h => ?_)
    · refine j_aload_n hF rfl 0 rfl dX10_back_23 ?_
      refine j_iconst (v := (1 : Int32)) hF (by decide) dX10_back_24 ?_
      refine j_iload_n hF rfl 1 rfl dX10_back_25 ?_
      refine j_iadd hF dX10_back_26 ?_
      refine j_iconst (v := (0 : Int32)) hF (by decide) dX10_back_27 ?_
      obtain ⟨r3, S4, hr3, h⟩ := bnd_some h
      refine j_callV_v (As := [.int ((1 : Int32) + a1), .int (0 : Int32)]) (st := []) hF rfl mv_10_copy (by decide) (s_57 E _) rfl bw_5_146 rfl (by decide) (Nat.le_of_ble_eq_true rfl) dX10_back_28 (c10_copy hr3) ?_
      refine j_aload_n hF rfl 0 rfl dX10_back_31 ?_
      refine gf10_12 hF (by decide) (s_57 E _) rfl bw_4_147 dX10_back_32 ?_
      refine j_iconst (v := (0 : Int32)) hF (by decide) dX10_back_35 ?_
      refine j_iald hF (by decide) (s_62 E) h dX10_back_36 (fun h => ?_)
      refine j_nmT h (fun x5 h => ?_)
      obtain rfl := ret1 h
      exact j_iret hF hC dX10_back_37
    · refine j_bipush (v := (-2 : Int32)) hF (by decide) dX10_back_20 ?_
      obtain rfl := ret1 h
      exact j_iret hF hC dX10_back_22
  · refine j_iconst (v := (-1 : Int32)) hF (by decide) dX10_back_9 ?_
    obtain rfl := ret1 h
    exact j_iret hF hC dX10_back_10
set_option maxHeartbeats 1000000 in
theorem c10_back {E : En} {N : Nat} {a1 : Int32} {S So : Mem} {ro : Int32} (h : f10_back N a1 S = some (ro, So)) : CT E yX10_back cX10_back 2 (some .int) 1 [.ref (eA E 57), .int a1] S (some (.int ro)) So :=
  CT_of (by decide) (Nat.le_of_ble_eq_true rfl) (fun X hF => t10_back hF h rfl)
def f10_count (N : Nat) (a1 : Int32) (S : Mem) : Option Int32 :=
if a1 = 0 then
if (0 : Int32) < 0 ∨ 2 ≤ (0 : Int32).toNatClampNeg then none else
lt_ ((S 59).1 (0 : Int32).toNatClampNeg) fun x3 =>
some (x3)
else
if a1 = (1 : Int32) then
if (0 : Int32) < 0 ∨ 2 ≤ (0 : Int32).toNatClampNeg then none else
lt_ ((S 61).1 (0 : Int32).toNatClampNeg) fun x2 =>
some (x2)
else
if a1 = (2 : Int32) then
if (0 : Int32) < 0 ∨ 3 ≤ (0 : Int32).toNatClampNeg then none else
lt_ ((S 62).1 (0 : Int32).toNatClampNeg) fun x1 =>
some (x1)
else
if a1 = (3 : Int32) then
some (((S 57).1 2))
else
some ((-1 : Int32))
set_option maxHeartbeats 1000000 in
theorem t10_count {E : En} {X : Cx} {Q : State → Prop} {N : Nat} {a1 : Int32} {S : Mem} {o : Int32} (hF : Fx E X cX10_count RX10 2 (some .int) 0) (h : f10_count N a1 S = some o) (hC : Q = RQ E X (some (.int o)) S) : J E X Q S 0 [(0, .ref (eA E 57)), (1, .int a1)] [] := by
  unfold f10_count at h
  refine j_iload_n hF rfl 1 rfl dX10_count_0 ?_
  refine j_if_ne (tgt := 13) hF h (by decide) dX10_count_1 (fun h => ?_) (fun h => ?_)
  · refine j_iload_n hF rfl 1 rfl dX10_count_13 ?_
    refine j_iconst (v := (1 : Int32)) hF (by decide) dX10_count_14 ?_
    refine j_icmp_ne (tgt := 27) hF h (by decide) dX10_count_15 (fun h => ?_) (fun h => ?_)
    · refine j_iload_n hF rfl 1 rfl dX10_count_27 ?_
      refine j_iconst (v := (2 : Int32)) hF (by decide) dX10_count_28 ?_
      refine j_icmp_ne (tgt := 41) hF h (by decide) dX10_count_29 (fun h => ?_) (fun h => ?_)
      · refine j_iload_n hF rfl 1 rfl dX10_count_41 ?_
        refine j_iconst (v := (3 : Int32)) hF (by decide) dX10_count_42 ?_
        refine j_icmp_ne (tgt := 53) hF h (by decide) dX10_count_43 (fun h => ?_) (fun h => ?_)
        · refine j_iconst (v := (-1 : Int32)) hF (by decide) dX10_count_53 ?_
          obtain rfl := ret1 h
          exact j_iret hF hC dX10_count_54
        · refine j_aload_n hF rfl 0 rfl dX10_count_46 ?_
          refine gf10_2 hF (by decide) (s_57 E _) rfl bw_4_137 dX10_count_47 ?_
          refine j_goto (tgt := 54) hF (by decide) dX10_count_50 ?_
          obtain rfl := ret1 h
          exact j_iret hF hC dX10_count_54
      · refine j_aload_n hF rfl 0 rfl dX10_count_32 ?_
        refine gf10_12 hF (by decide) (s_57 E _) rfl bw_4_147 dX10_count_33 ?_
        refine j_iconst (v := (0 : Int32)) hF (by decide) dX10_count_36 ?_
        refine j_iald hF (by decide) (s_62 E) h dX10_count_37 (fun h => ?_)
        refine j_nmT h (fun x1 h => ?_)
        refine j_goto (tgt := 54) hF (by decide) dX10_count_38 ?_
        obtain rfl := ret1 h
        exact j_iret hF hC dX10_count_54
    · refine j_aload_n hF rfl 0 rfl dX10_count_18 ?_
      refine gf10_5 hF (by decide) (s_57 E _) rfl bw_4_140 dX10_count_19 ?_
      refine j_iconst (v := (0 : Int32)) hF (by decide) dX10_count_22 ?_
      refine j_iald hF (by decide) (s_61 E) h dX10_count_23 (fun h => ?_)
      refine j_nmT h (fun x2 h => ?_)
      refine j_goto (tgt := 54) hF (by decide) dX10_count_24 ?_
      obtain rfl := ret1 h
      exact j_iret hF hC dX10_count_54
  · refine j_aload_n hF rfl 0 rfl dX10_count_4 ?_
    refine gf10_3 hF (by decide) (s_57 E _) rfl bw_4_138 dX10_count_5 ?_
    refine j_iconst (v := (0 : Int32)) hF (by decide) dX10_count_8 ?_
    refine j_iald hF (by decide) (s_59 E) h dX10_count_9 (fun h => ?_)
    refine j_nmT h (fun x3 h => ?_)
    refine j_goto (tgt := 54) hF (by decide) dX10_count_10 ?_
    obtain rfl := ret1 h
    exact j_iret hF hC dX10_count_54
set_option maxHeartbeats 1000000 in
theorem c10_count {E : En} {N : Nat} {a1 : Int32} {S : Mem} {ro : Int32} (h : f10_count N a1 S = some ro) : CT E yX10_count cX10_count 2 (some .int) 0 [.ref (eA E 57), .int a1] S (some (.int ro)) S :=
  CT_of (by decide) (Nat.le_of_ble_eq_true rfl) (fun X hF => t10_count hF h rfl)
def f10_trace (N : Nat) (S : Mem) : Option Int64 :=
some ((S 57).2)
set_option maxHeartbeats 1000000 in
theorem t10_trace {E : En} {X : Cx} {Q : State → Prop} {N : Nat} {S : Mem} {o : Int64} (hF : Fx E X cX10_trace RX10 1 (some .long) 0) (h : f10_trace N S = some o) (hC : Q = RQ E X (some (.long o)) S) : J E X Q S 0 [(0, .ref (eA E 57))] [] := by
  unfold f10_trace at h
  refine j_aload_n hF rfl 0 rfl dX10_trace_0 ?_
  refine gf10_0 hF (by decide) (s_57 E _) rfl bw_4_135 dX10_trace_1 ?_
  obtain rfl := ret1 h
  exact j_lret hF hC dX10_trace_4
set_option maxHeartbeats 1000000 in
theorem c10_trace {E : En} {N : Nat} {S : Mem} {ro : Int64} (h : f10_trace N S = some ro) : CT E yX10_trace cX10_trace 1 (some .long) 0 [.ref (eA E 57)] S (some (.long ro)) S :=
  CT_of (by decide) (Nat.le_of_ble_eq_true rfl) (fun X hF => t10_trace hF h rfl)
