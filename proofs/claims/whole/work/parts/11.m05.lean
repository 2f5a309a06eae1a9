def f10_common_L6 (N : Nat) (v4 : Int64) (v6 : Int64) (S : Mem) : Option ((Int64 × Int64) ⊕ (Int64)) :=
if (lg_cmp v6 (0 : Int64)) = 0 then
some (.inr (v4))
else
if v6 = (0 : Int64) then none else
lt_ (v4 - v4 / v6 * v6) fun x1 =>
some (.inl (v6, x1))
def f10_common_b31 (N : Nat) (v4 : Int64) (S : Mem) : Option Int64 :=
some (v4)
def f10_common (N : Nat) (a0 : Int64) (a2 : Int64) (S : Mem) : Option Int64 :=
bnp (lp N (fun s => f10_common_L6 N s.1 s.2 S) (a0, a2)) fun z2 =>
f10_common_b31 N z2 S
set_option maxHeartbeats 1000000 in
theorem t10_common_L6 {E : En} {X : Cx} {Q : State → Prop} {N : Nat} {v4 : Int64} {v6 : Int64} {S : Mem} {o : ((Int64 × Int64) ⊕ (Int64))} (hF : Fx E X cX10_common RX10 10 (some .long) 0) (h : f10_common_L6 N v4 v6 S = some o) (hC : Sum.elim (fun (s : (Int64 × Int64)) => J E X Q S 6 [(4, .long s.1), (6, .long s.2)] []) (fun (x : (Int64)) => J E X Q S 31 [(4, .long x)] []) o) : J E X Q S 6 [(4, .long v4), (6, .long v6)] [] := by
  unfold f10_common_L6 at h
  refine j_lload hF 1 rfl dX10_common_6 ?_
  refine j_lconst (v := (0 : Int64)) hF (by decide) dX10_common_8 ?_
  refine j_lcmp hF dX10_common_9 ?_
  refine j_if_eq (tgt := 31) hF h (by decide) dX10_common_10 (fun h => ?_) (fun h => ?_)
  · obtain rfl := ret1 h
    refine j_sub (lv' := [(4, .long v4)]) hF [0] rfl ?_
    exact hC
  · refine j_lload hF 0 rfl dX10_common_13 ?_
    refine j_lload hF 1 rfl dX10_common_15 ?_
    refine j_lrem hF h dX10_common_17 (fun h => ?_)
    refine j_lstore (lv' := [(8, .long (v4 - v4 / v6 * v6)), (4, .long v4), (6, .long v6)]) hF (by decide) rfl dX10_common_18 ?_
    refine j_nmLL h (fun x1 h => ?_)
    refine j_lload hF 2 rfl dX10_common_20 ?_
    refine j_lstore (lv' := [(4, .long v6), (8, .long x1), (6, .long v6)]) hF (by decide) rfl dX10_common_22 ?_
    refine j_lload hF 1 rfl dX10_common_24 ?_
    refine j_lstore (lv' := [(6, .long x1), (4, .long v6), (8, .long x1)]) hF (by decide) rfl dX10_common_26 ?_
    refine j_goto (tgt := 6) hF (by decide) dX10_common_28 ?_
    obtain rfl := ret1 h
    refine j_sub (lv' := [(4, .long v6), (6, .long x1)]) hF [1, 0] rfl ?_
    exact hC
set_option maxHeartbeats 1000000 in
theorem t10_common_b31 {E : En} {X : Cx} {Q : State → Prop} {N : Nat} {v4 : Int64} {S : Mem} {o : Int64} (hF : Fx E X cX10_common RX10 10 (some .long) 0) (h : f10_common_b31 N v4 S = some o) (hC : Q = RQ E X (some (.long o)) S) : J E X Q S 31 [(4, .long v4)] [] := by
  unfold f10_common_b31 at h
  refine j_lload hF 0 rfl dX10_common_31 ?_
  obtain rfl := ret1 h
  exact j_lret hF hC dX10_common_33
set_option maxHeartbeats 1000000 in
theorem t10_common {E : En} {X : Cx} {Q : State → Prop} {N : Nat} {a0 : Int64} {a2 : Int64} {S : Mem} {o : Int64} (hF : Fx E X cX10_common RX10 10 (some .long) 0) (h : f10_common N a0 a2 S = some o) (hC : Q = RQ E X (some (.long o)) S) : J E X Q S 0 [(0, .long a0), (2, .long a2)] [] := by
  unfold f10_common at h
  refine j_lload_n hF rfl 0 rfl dX10_common_0 ?_
  refine j_lstore (lv' := [(4, .long a0), (0, .long a0), (2, .long a2)]) hF (by decide) rfl dX10_common_1 ?_
  refine j_lload_n hF rfl 2 rfl dX10_common_3 ?_
  refine j_lstore (lv' := [(6, .long a2), (4, .long a0), (0, .long a0), (2, .long a2)]) hF (by decide) rfl dX10_common_4 ?_
  obtain ⟨z2, hz2, h⟩ := bnp_some h
  refine j_sub (lv' := [(4, .long a0), (6, .long a2)]) hF [1, 0] rfl ?_
  have hx : (fun (x : (Int64)) => J E X Q S 31 [(4, .long x)] []) z2 := by
    exact t10_common_b31 hF h hC
  exact lp_rule (Jh := fun (s : (Int64 × Int64)) => J E X Q S 6 [(4, .long s.1), (6, .long s.2)] []) (C := fun (x : (Int64)) => J E X Q S 31 [(4, .long x)] []) (fun s o h hC => t10_common_L6 hF h hC) N (a0, a2) z2 hz2 hx
set_option maxHeartbeats 1000000 in
theorem c10_common {E : En} {N : Nat} {a0 : Int64} {a2 : Int64} {S : Mem} {ro : Int64} (h : f10_common N a0 a2 S = some ro) : CT E yX10_common cX10_common 10 (some .long) 0 [.long a0, .long a2] S (some (.long ro)) S :=
  CT_of (by decide) (Nat.le_of_ble_eq_true rfl) (fun X hF => t10_common hF h rfl)
def f10_odds_b163 (N : Nat) (v1 : Int32) (v2 : Int32) (v3 : Int32) (v4 : Int32) (v5 : Int64) (v7 : Int64) (v9 : Int32) (S : Mem) : Option ((Int64 × Int64 × Int32 × Mem) ⊕ (Int64 × Int64 × Mem)) :=
lt_ (v9 + (1 : Int32)) fun x8 =>
some (.inl (v5, v7, x8, S))
def f10_odds_b127 (N : Nat) (v1 : Int32) (v2 : Int32) (v3 : Int32) (v4 : Int32) (v5 : Int64) (v7 : Int64) (v9 : Int32) (v12 : Int32) (w0 : Int64) (w1 : Int64) (S : Mem) : Option ((Int64 × Int32) ⊕ (Int64)) :=
lt_ (w1 * w0) fun x12 =>
lt_ (v12 + (1 : Int32)) fun x13 =>
some (.inl (x12, x13))
def f10_odds_L76 (N : Nat) (v1 : Int32) (v2 : Int32) (v3 : Int32) (v4 : Int32) (v5 : Int64) (v7 : Int64) (v9 : Int32) (v10 : Int64) (v12 : Int32) (S : Mem) : Option ((Int64 × Int32) ⊕ (Int64)) :=
if (0 : Int32) < 0 ∨ 3 ≤ (0 : Int32).toNatClampNeg then none else
lt_ ((S 62).1 (0 : Int32).toNatClampNeg) fun x9 =>
if x9 ≤ v12 then
some (.inr (v10))
else
if (((3 : Int32) * v12) + (2 : Int32)) < 0 ∨ 108 ≤ (((3 : Int32) * v12) + (2 : Int32)).toNatClampNeg then none else
lt_ ((S 63).1 (((3 : Int32) * v12) + (2 : Int32)).toNatClampNeg) fun x10 =>
if (2 : Int32) ≤ x10 then
bnp (f10_laughIn N v12 S) fun r11 =>
if r11 = (1 : Int32) then
f10_odds_b127 N v1 v2 v3 v4 v5 v7 v9 v12 v2.toInt64 v10 S
else
f10_odds_b127 N v1 v2 v3 v4 v5 v7 v9 v12 (v3 - v2).toInt64 v10 S
else
f10_odds_b127 N v1 v2 v3 v4 v5 v7 v9 v12 (1 : Int64) v10 S
def f10_odds_b153 (N : Nat) (v1 : Int32) (v2 : Int32) (v3 : Int32) (v4 : Int32) (v7 : Int64) (v9 : Int32) (v10 : Int64) (w0 : Int64) (w1 : Int64) (S : Mem) : Option ((Int64 × Int64 × Int32 × Mem) ⊕ (Int64 × Int64 × Mem)) :=
lt_ (w1 + w0) fun x16 =>
lt_ (v7 + v10) fun x17 =>
f10_odds_b163 N v1 v2 v3 v4 x16 x17 v9 S
def f10_odds_b136 (N : Nat) (v1 : Int32) (v2 : Int32) (v3 : Int32) (v4 : Int32) (v5 : Int64) (v7 : Int64) (v9 : Int32) (v10 : Int64) (S : Mem) : Option ((Int64 × Int64 × Int32 × Mem) ⊕ (Int64 × Int64 × Mem)) :=
bnp (f10_laughIn N v1 S) fun r15 =>
if r15 = (1 : Int32) then
f10_odds_b153 N v1 v2 v3 v4 v7 v9 v10 v10 v5 S
else
f10_odds_b153 N v1 v2 v3 v4 v7 v9 v10 (0 : Int64) v5 S
def f10_odds_L52 (N : Nat) (v1 : Int32) (v2 : Int32) (v3 : Int32) (v4 : Int32) (v5 : Int64) (v7 : Int64) (v9 : Int32) (S : Mem) : Option ((Int64 × Int64 × Int32 × Mem) ⊕ (Int64 × Int64 × Mem)) :=
bnp (f10_worlds N S) fun r5 =>
if r5 ≤ v9 then
some (.inr (v5, v7, S))
else
bnd (f10_canBe N v9 S) fun r6 S7 =>
if r6 = 0 then
f10_odds_b163 N v1 v2 v3 v4 v5 v7 v9 S7
else
bnp (lp N (fun s => f10_odds_L76 N v1 v2 v3 v4 v5 v7 v9 s.1 s.2 S7) ((1 : Int64), (0 : Int32))) fun z14 =>
f10_odds_b136 N v1 v2 v3 v4 v5 v7 v9 z14 S7
def f10_odds_b169 (N : Nat) (v4 : Int32) (v5 : Int64) (v7 : Int64) (S : Mem) : Option (Int64 × Mem) :=
if (lg_cmp v7 (0 : Int64)) = 0 then
some (((-2 : Int64), S))
else
bnp (f10_common N v5 v7 S) fun r19 =>
if v4 = 0 then
if r19 = (0 : Int64) then none else
some (((v5 / r19), S))
else
if r19 = (0 : Int64) then none else
some (((v7 / r19), S))
def f10_odds (N : Nat) (a1 : Int32) (a2 : Int32) (a3 : Int32) (a4 : Int32) (S : Mem) : Option (Int64 × Mem) :=
bnp (f10_isLine N a1 S) fun r1 =>
if r1 = 0 then
some (((-1 : Int64), S))
else
bnp (f10_in N a3 (1 : Int32) (9 : Int32) S) fun r2 =>
if r2 = 0 then
some (((-1 : Int64), S))
else
bnp (f10_in N a2 (1 : Int32) (a3 - (1 : Int32)) S) fun r3 =>
if r3 = 0 then
some (((-1 : Int64), S))
else
bnp (f10_in N a4 (0 : Int32) (1 : Int32) S) fun r4 =>
if r4 = 0 then
some (((-1 : Int64), S))
else
bnp (lp N (fun s => f10_odds_L52 N a1 a2 a3 a4 s.1 s.2.1 s.2.2.1 s.2.2.2) ((0 : Int64), (0 : Int64), (0 : Int32), S)) fun z18 =>
f10_odds_b169 N a4 z18.1 z18.2.1 z18.2.2
set_option maxHeartbeats 1000000 in
theorem t10_odds_b163 {E : En} {X : Cx} {Q : State → Prop} {N : Nat} {v1 : Int32} {v2 : Int32} {v3 : Int32} {v4 : Int32} {v5 : Int64} {v7 : Int64} {v9 : Int32} {S : Mem} {o : ((Int64 × Int64 × Int32 × Mem) ⊕ (Int64 × Int64 × Mem))} (hF : Fx E X cX10_odds RX10 13 (some .long) 4) (h : f10_odds_b163 N v1 v2 v3 v4 v5 v7 v9 S = some o) (hC : Sum.elim (fun (s : (Int64 × Int64 × Int32 × Mem)) => J E X Q s.2.2.2 52 [(0, .ref (eA E 57)), (1, .int v1), (2, .int v2), (3, .int v3), (4, .int v4), (5, .long s.1), (7, .long s.2.1), (9, .int s.2.2.1)] []) (fun (x : (Int64 × Int64 × Mem)) => J E X Q x.2.2 169 [(4, .int v4), (5, .long x.1), (7, .long x.2.1)] []) o) : J E X Q S 163 [(0, .ref (eA E 57)), (1, .int v1), (2, .int v2), (3, .int v3), (4, .int v4), (5, .long v5), (7, .long v7), (9, .int v9)] [] := by
  unfold f10_odds_b163 at h
  refine j_iinc (v := (v9 + (1 : Int32))) (lv' := [(9, .int (v9 + (1 : Int32))), (0, .ref (eA E 57)), (1, .int v1), (2, .int v2), (3, .int v3), (4, .int v4), (5, .long v5), (7, .long v7)]) (q := 7) hF rfl (congrArg (fun z => v9 + z) (by decide)) (by decide) rfl dX10_odds_163 ?_
  refine j_nmL h (fun x8 h => ?_)
  refine j_goto (tgt := 52) hF (by decide) dX10_odds_166 ?_
  obtain rfl := ret1 h
  refine j_sub (lv' := [(0, .ref (eA E 57)), (1, .int v1), (2, .int v2), (3, .int v3), (4, .int v4), (5, .long v5), (7, .long v7), (9, .int x8)]) hF [1, 2, 3, 4, 5, 6, 7, 0] rfl ?_
  exact hC
set_option maxHeartbeats 1000000 in
theorem t10_odds_b127 {E : En} {X : Cx} {Q : State → Prop} {N : Nat} {v1 : Int32} {v2 : Int32} {v3 : Int32} {v4 : Int32} {v5 : Int64} {v7 : Int64} {v9 : Int32} {v12 : Int32} {w0 : Int64} {w1 : Int64} {S : Mem} {o : ((Int64 × Int32) ⊕ (Int64))} (hF : Fx E X cX10_odds RX10 13 (some .long) 4) (h : f10_odds_b127 N v1 v2 v3 v4 v5 v7 v9 v12 w0 w1 S = some o) (hC : Sum.elim (fun (s : (Int64 × Int32)) => J E X Q S 76 [(0, .ref (eA E 57)), (1, .int v1), (2, .int v2), (3, .int v3), (4, .int v4), (5, .long v5), (7, .long v7), (9, .int v9), (10, .long s.1), (12, .int s.2)] []) (fun (x : (Int64)) => J E X Q S 136 [(0, .ref (eA E 57)), (1, .int v1), (2, .int v2), (3, .int v3), (4, .int v4), (5, .long v5), (7, .long v7), (9, .int v9), (10, .long x)] []) o) : J E X Q S 127 [(0, .ref (eA E 57)), (1, .int v1), (2, .int v2), (3, .int v3), (4, .int v4), (5, .long v5), (7, .long v7), (9, .int v9), (12, .int v12)] [.long w0, .long w1] := by
  unfold f10_odds_b127 at h
  refine j_lmul hF dX10_odds_127 ?_
  refine j_lstore (lv' := [(10, .long (w1 * w0)), (0, .ref (eA E 57)), (1, .int v1), (2, .int v2), (3, .int v3), (4, .int v4), (5, .long v5), (7, .long v7), (9, .int v9), (12, .int v12)]) hF (by decide) rfl dX10_odds_128 ?_
  refine j_nmLL h (fun x12 h => ?_)
  refine j_iinc (v := (v12 + (1 : Int32))) (lv' := [(12, .int (v12 + (1 : Int32))), (10, .long x12), (0, .ref (eA E 57)), (1, .int v1), (2, .int v2), (3, .int v3), (4, .int v4), (5, .long v5), (7, .long v7), (9, .int v9)]) (q := 9) hF rfl (congrArg (fun z => v12 + z) (by decide)) (by decide) rfl dX10_odds_130 ?_
  refine j_nmL h (fun x13 h => ?_)
  refine j_goto (tgt := 76) hF (by decide) dX10_odds_133 ?_
  obtain rfl := ret1 h
  refine j_sub (lv' := [(0, .ref (eA E 57)), (1, .int v1), (2, .int v2), (3, .int v3), (4, .int v4), (5, .long v5), (7, .long v7), (9, .int v9), (10, .long x12), (12, .int x13)]) hF [2, 3, 4, 5, 6, 7, 8, 9, 1, 0] rfl ?_
  exact hC
set_option maxHeartbeats 1000000 in
theorem t10_odds_L76 {E : En} {X : Cx} {Q : State → Prop} {N : Nat} {v1 : Int32} {v2 : Int32} {v3 : Int32} {v4 : Int32} {v5 : Int64} {v7 : Int64} {v9 : Int32} {v10 : Int64} {v12 : Int32} {S : Mem} {o : ((Int64 × Int32) ⊕ (Int64))} (hF : Fx E X cX10_odds RX10 13 (some .long) 4) (h : f10_odds_L76 N v1 v2 v3 v4 v5 v7 v9 v10 v12 S = some o) (hC : Sum.elim (fun (s : (Int64 × Int32)) => J E X Q S 76 [(0, .ref (eA E 57)), (1, .int v1), (2, .int v2), (3, .int v3), (4, .int v4), (5, .long v5), (7, .long v7), (9, .int v9), (10, .long s.1), (12, .int s.2)] []) (fun (x : (Int64)) => J E X Q S 136 [(0, .ref (eA E 57)), (1, .int v1), (2, .int v2), (3, .int v3), (4, .int v4), (5, .long v5), (7, .long v7), (9, .int v9), (10, .long x)] []) o) : J E X Q S 76 [(0, .ref (eA E 57)), (1, .int v1), (2, .int v2), (3, .int v3), (4, .int v4), (5, .long v5), (7, .long v7), (9, .int v9), (10, .long v10), (12, .int v12)] [] := by
  unfold f10_odds_L76 at h
  refine j_iload hF 9 rfl dX10_odds_76 ?_
  refine j_aload_n hF rfl 0 rfl dX10_odds_78 ?_
  refine gf10_12 hF (by decide) (s_57 E _) rfl bw_4_147 dX10_odds_79 ?_
  refine j_iconst (v := (0 : Int32)) hF (by decide) dX10_odds_82 ?_
  refine j_iald hF (by decide) (s_62 E) h dX10_odds_83 (fun h => ?_)
  refine j_nmT h (fun x9 h => ?_)
  refine j_icmp_ge (tgt := 136) hF h (by decide) dX10_odds_84 (fun h => ?_) (fun h => ?_)
  · obtain rfl := ret1 h
    refine j_sub (lv' := [(0, .ref (eA E 57)), (1, .int v1), (2, .int v2), (3, .int v3), (4, .int v4), (5, .long v5), (7, .long v7), (9, .int v9), (10, .long v10)]) hF [0, 1, 2, 3, 4, 5, 6, 7, 8] rfl ?_
    exact hC
  · refine j_lload hF 8 rfl dX10_odds_87 ?_
    refine j_aload_n hF rfl 0 rfl dX10_odds_89 ?_
    refine gf10_13 hF (by decide) (s_57 E _) rfl bw_4_148 dX10_odds_90 ?_
    refine j_iconst (v := (3 : Int32)) hF (by decide) dX10_odds_93 ?_
    refine j_iload hF 9 rfl dX10_odds_94 ?_
    refine j_imul hF dX10_odds_96 ?_
    refine j_iconst (v := (2 : Int32)) hF (by decide) dX10_odds_97 ?_
    refine j_iadd hF dX10_odds_98 ?_
    refine j_iald hF (by decide) (s_63 E) h dX10_odds_99 (fun h => ?_)
    refine j_nmT h (fun x10 h => ?_)
    refine j_iconst (v := (2 : Int32)) hF (by decide) dX10_odds_100 ?_
    refine j_icmp_ge (tgt := 108) hF h (by decide) dX10_odds_101 (fun h => ?_) (fun h => ?_)
    · refine j_aload_n hF rfl 0 rfl dX10_odds_108 ?_
      refine j_iload hF 9 rfl dX10_odds_109 ?_
      obtain ⟨r11, hr11, h⟩ := bnp_some h
      refine j_callV_i (As := [.int v12]) (st := [.long v10]) hF rfl mv_10_laughIn (by decide) (s_57 E _) rfl bw_5_63 rfl (by decide) (Nat.le_of_ble_eq_true rfl) dX10_odds_111 (c10_laughIn hr11) ?_
      refine j_iconst (v := (1 : Int32)) hF (by decide) dX10_odds_114 ?_
      refine j_icmp_ne (tgt := 123) hF h (by decide) dX10_odds_115 (fun h => ?_) (fun h => ?_)
      · refine j_iload_n hF rfl 3 rfl dX10_odds_123 ?_
        refine j_iload_n hF rfl 2 rfl dX10_odds_124 ?_
        refine j_isub hF dX10_odds_125 ?_
        refine j_i2l hF dX10_odds_126 ?_
        refine j_sub (lv' := [(0, .ref (eA E 57)), (1, .int v1), (2, .int v2), (3, .int v3), (4, .int v4), (5, .long v5), (7, .long v7), (9, .int v9), (12, .int v12)]) hF [0, 1, 2, 3, 4, 5, 6, 7, 9] rfl ?_
        exact t10_odds_b127 hF h hC
      · refine j_iload_n hF rfl 2 rfl dX10_odds_118 ?_
        refine j_i2l hF dX10_odds_119 ?_
        refine j_goto (tgt := 127) hF (by decide) dX10_odds_120 ?_
        refine j_sub (lv' := [(0, .ref (eA E 57)), (1, .int v1), (2, .int v2), (3, .int v3), (4, .int v4), (5, .long v5), (7, .long v7), (9, .int v9), (12, .int v12)]) hF [0, 1, 2, 3, 4, 5, 6, 7, 9] rfl ?_
        exact t10_odds_b127 hF h hC
    · refine j_lconst (v := (1 : Int64)) hF (by decide) dX10_odds_104 ?_
      refine j_goto (tgt := 127) hF (by decide) dX10_odds_105 ?_
      refine j_sub (lv' := [(0, .ref (eA E 57)), (1, .int v1), (2, .int v2), (3, .int v3), (4, .int v4), (5, .long v5), (7, .long v7), (9, .int v9), (12, .int v12)]) hF [0, 1, 2, 3, 4, 5, 6, 7, 9] rfl ?_
      exact t10_odds_b127 hF h hC
set_option maxHeartbeats 1000000 in
theorem t10_odds_b153 {E : En} {X : Cx} {Q : State → Prop} {N : Nat} {v1 : Int32} {v2 : Int32} {v3 : Int32} {v4 : Int32} {v7 : Int64} {v9 : Int32} {v10 : Int64} {w0 : Int64} {w1 : Int64} {S : Mem} {o : ((Int64 × Int64 × Int32 × Mem) ⊕ (Int64 × Int64 × Mem))} (hF : Fx E X cX10_odds RX10 13 (some .long) 4) (h : f10_odds_b153 N v1 v2 v3 v4 v7 v9 v10 w0 w1 S = some o) (hC : Sum.elim (fun (s : (Int64 × Int64 × Int32 × Mem)) => J E X Q s.2.2.2 52 [(0, .ref (eA E 57)), (1, .int v1), (2, .int v2), (3, .int v3), (4, .int v4), (5, .long s.1), (7, .long s.2.1), (9, .int s.2.2.1)] []) (fun (x : (Int64 × Int64 × Mem)) => J E X Q x.2.2 169 [(4, .int v4), (5, .long x.1), (7, .long x.2.1)] []) o) : J E X Q S 153 [(0, .ref (eA E 57)), (1, .int v1), (2, .int v2), (3, .int v3), (4, .int v4), (7, .long v7), (9, .int v9), (10, .long v10)] [.long w0, .long w1] := by
  unfold f10_odds_b153 at h
  refine j_ladd hF dX10_odds_153 ?_
  refine j_lstore (lv' := [(5, .long (w1 + w0)), (0, .ref (eA E 57)), (1, .int v1), (2, .int v2), (3, .int v3), (4, .int v4), (7, .long v7), (9, .int v9), (10, .long v10)]) hF (by decide) rfl dX10_odds_154 ?_
  refine j_nmLL h (fun x16 h => ?_)
  refine j_lload hF 6 rfl dX10_odds_156 ?_
  refine j_lload hF 8 rfl dX10_odds_158 ?_
  refine j_ladd hF dX10_odds_160 ?_
  refine j_lstore (lv' := [(7, .long (v7 + v10)), (5, .long x16), (0, .ref (eA E 57)), (1, .int v1), (2, .int v2), (3, .int v3), (4, .int v4), (9, .int v9), (10, .long v10)]) hF (by decide) rfl dX10_odds_161 ?_
  refine j_nmLL h (fun x17 h => ?_)
  refine j_sub (lv' := [(0, .ref (eA E 57)), (1, .int v1), (2, .int v2), (3, .int v3), (4, .int v4), (5, .long x16), (7, .long x17), (9, .int v9)]) hF [2, 3, 4, 5, 6, 1, 0, 7] rfl ?_
  exact t10_odds_b163 hF h hC
set_option maxHeartbeats 1000000 in
theorem t10_odds_b136 {E : En} {X : Cx} {Q : State → Prop} {N : Nat} {v1 : Int32} {v2 : Int32} {v3 : Int32} {v4 : Int32} {v5 : Int64} {v7 : Int64} {v9 : Int32} {v10 : Int64} {S : Mem} {o : ((Int64 × Int64 × Int32 × Mem) ⊕ (Int64 × Int64 × Mem))} (hF : Fx E X cX10_odds RX10 13 (some .long) 4) (h : f10_odds_b136 N v1 v2 v3 v4 v5 v7 v9 v10 S = some o) (hC : Sum.elim (fun (s : (Int64 × Int64 × Int32 × Mem)) => J E X Q s.2.2.2 52 [(0, .ref (eA E 57)), (1, .int v1), (2, .int v2), (3, .int v3), (4, .int v4), (5, .long s.1), (7, .long s.2.1), (9, .int s.2.2.1)] []) (fun (x : (Int64 × Int64 × Mem)) => J E X Q x.2.2 169 [(4, .int v4), (5, .long x.1), (7, .long x.2.1)] []) o) : J E X Q S 136 [(0, .ref (eA E 57)), (1, .int v1), (2, .int v2), (3, .int v3), (4, .int v4), (5, .long v5), (7, .long v7), (9, .int v9), (10, .long v10)] [] := by
  unfold f10_odds_b136 at h
  refine j_lload hF 5 rfl dX10_odds_136 ?_
  refine j_aload_n hF rfl 0 rfl dX10_odds_138 ?_
  refine j_iload_n hF rfl 1 rfl dX10_odds_139 ?_
  obtain ⟨r15, hr15, h⟩ := bnp_some h
  refine j_callV_i (As := [.int v1]) (st := [.long v5]) hF rfl mv_10_laughIn (by decide) (s_57 E _) rfl bw_5_63 rfl (by decide) (Nat.le_of_ble_eq_true rfl) dX10_odds_140 (c10_laughIn hr15) ?_
  refine j_iconst (v := (1 : Int32)) hF (by decide) dX10_odds_143 ?_
  refine j_icmp_ne (tgt := 152) hF h (by decide) dX10_odds_144 (fun h => ?_) (fun h => ?_)
  · refine j_lconst (v := (0 : Int64)) hF (by decide) dX10_odds_152 ?_
    refine j_sub (lv' := [(0, .ref (eA E 57)), (1, .int v1), (2, .int v2), (3, .int v3), (4, .int v4), (7, .long v7), (9, .int v9), (10, .long v10)]) hF [0, 1, 2, 3, 4, 6, 7, 8] rfl ?_
    exact t10_odds_b153 hF h hC
  · refine j_lload hF 8 rfl dX10_odds_147 ?_
    refine j_goto (tgt := 153) hF (by decide) dX10_odds_149 ?_
    refine j_sub (lv' := [(0, .ref (eA E 57)), (1, .int v1), (2, .int v2), (3, .int v3), (4, .int v4), (7, .long v7), (9, .int v9), (10, .long v10)]) hF [0, 1, 2, 3, 4, 6, 7, 8] rfl ?_
    exact t10_odds_b153 hF h hC
set_option maxHeartbeats 1000000 in
theorem t10_odds_L52 {E : En} {X : Cx} {Q : State → Prop} {N : Nat} {v1 : Int32} {v2 : Int32} {v3 : Int32} {v4 : Int32} {v5 : Int64} {v7 : Int64} {v9 : Int32} {S : Mem} {o : ((Int64 × Int64 × Int32 × Mem) ⊕ (Int64 × Int64 × Mem))} (hF : Fx E X cX10_odds RX10 13 (some .long) 4) (h : f10_odds_L52 N v1 v2 v3 v4 v5 v7 v9 S = some o) (hC : Sum.elim (fun (s : (Int64 × Int64 × Int32 × Mem)) => J E X Q s.2.2.2 52 [(0, .ref (eA E 57)), (1, .int v1), (2, .int v2), (3, .int v3), (4, .int v4), (5, .long s.1), (7, .long s.2.1), (9, .int s.2.2.1)] []) (fun (x : (Int64 × Int64 × Mem)) => J E X Q x.2.2 169 [(4, .int v4), (5, .long x.1), (7, .long x.2.1)] []) o) : J E X Q S 52 [(0, .ref (eA E 57)), (1, .int v1), (2, .int v2), (3, .int v3), (4, .int v4), (5, .long v5), (7, .long v7), (9, .int v9)] [] := by
  unfold f10_odds_L52 at h
  refine j_iload hF 7 rfl dX10_odds_52 ?_
  refine j_aload_n hF rfl 0 rfl dX10_odds_54 ?_
  obtain ⟨r5, hr5, h⟩ := bnp_some h
  refine j_callV_i (As := []) (st := [.int v9]) hF rfl mv_10_worlds (by decide) (s_57 E _) rfl bw_5_47 rfl (by decide) (Nat.le_of_ble_eq_true rfl) dX10_odds_55 (c10_worlds hr5) ?_
  refine j_icmp_ge (tgt := 169) hF h (by decide) dX10_odds_58 (fun h => ?_) (fun h => ?_)
  · obtain rfl := ret1 h
    refine j_sub (lv' := [(4, .int v4), (5, .long v5), (7, .long v7)]) hF [4, 5, 6] rfl ?_
    exact hC
  · refine j_aload_n hF rfl 0 rfl dX10_odds_61 ?_
    refine j_iload hF 7 rfl dX10_odds_62 ?_
    obtain ⟨r6, S7, hr6, h⟩ := bnd_some h
    refine j_callV_i (As := [.int v9]) (st := []) hF rfl mv_10_canBe (by decide) (s_57 E _) rfl bw_5_51 rfl (by decide) (Nat.le_of_ble_eq_true rfl) dX10_odds_64 (c10_canBe hr6) ?_
    refine j_if_eq (tgt := 163) hF h (by decide) dX10_odds_67 (fun h => ?_) (fun h => ?_)
    · exact t10_odds_b163 hF h hC
    · refine j_lconst (v := (1 : Int64)) hF (by decide) dX10_odds_70 ?_
      refine j_lstore (lv' := [(10, .long (1 : Int64)), (0, .ref (eA E 57)), (1, .int v1), (2, .int v2), (3, .int v3), (4, .int v4), (5, .long v5), (7, .long v7), (9, .int v9)]) hF (by decide) rfl dX10_odds_71 ?_
      refine j_iconst (v := (0 : Int32)) hF (by decide) dX10_odds_73 ?_
      refine j_istore (lv' := [(12, .int (0 : Int32)), (10, .long (1 : Int64)), (0, .ref (eA E 57)), (1, .int v1), (2, .int v2), (3, .int v3), (4, .int v4), (5, .long v5), (7, .long v7), (9, .int v9)]) hF (by decide) rfl dX10_odds_74 ?_
      obtain ⟨z14, hz14, h⟩ := bnp_some h
      refine j_sub (lv' := [(0, .ref (eA E 57)), (1, .int v1), (2, .int v2), (3, .int v3), (4, .int v4), (5, .long v5), (7, .long v7), (9, .int v9), (10, .long (1 : Int64)), (12, .int (0 : Int32))]) hF [2, 3, 4, 5, 6, 7, 8, 9, 1, 0] rfl ?_
      have hx : (fun (x : (Int64)) => J E X Q S7 136 [(0, .ref (eA E 57)), (1, .int v1), (2, .int v2), (3, .int v3), (4, .int v4), (5, .long v5), (7, .long v7), (9, .int v9), (10, .long x)] []) z14 := by
        exact t10_odds_b136 hF h hC
      exact lp_rule (Jh := fun (s : (Int64 × Int32)) => J E X Q S7 76 [(0, .ref (eA E 57)), (1, .int v1), (2, .int v2), (3, .int v3), (4, .int v4), (5, .long v5), (7, .long v7), (9, .int v9), (10, .long s.1), (12, .int s.2)] []) (C := fun (x : (Int64)) => J E X Q S7 136 [(0, .ref (eA E 57)), (1, .int v1), (2, .int v2), (3, .int v3), (4, .int v4), (5, .long v5), (7, .long v7), (9, .int v9), (10, .long x)] []) (fun s o h hC => t10_odds_L76 hF h hC) N ((1 : Int64), (0 : Int32)) z14 hz14 hx
set_option maxHeartbeats 1000000 in
theorem t10_odds_b169 {E : En} {X : Cx} {Q : State → Prop} {N : Nat} {v4 : Int32} {v5 : Int64} {v7 : Int64} {S : Mem} {o : (Int64 × Mem)} (hF : Fx E X cX10_odds RX10 13 (some .long) 4) (h : f10_odds_b169 N v4 v5 v7 S = some o) (hC : Q = RQ E X (some (.long o.1)) o.2) : J E X Q S 169 [(4, .int v4), (5, .long v5), (7, .long v7)] [] := by
  unfold f10_odds_b169 at h
  refine j_lload hF 2 rfl dX10_odds_169 ?_
  refine j_lconst (v := (0 : Int64)) hF (by decide) dX10_odds_171 ?_
  refine j_lcmp hF dX10_odds_172 ?_
  refine j_if_ne (tgt := 180) hF h (by decide) dX10_odds_173 (fun h => ?_) (fun h => ?_)
  · refine j_lload hF 1 rfl dX10_odds_180 ?_
    refine j_lload hF 2 rfl dX10_odds_182 ?_
    obtain ⟨r19, hr19, h⟩ := bnp_some h
    refine j_callS_l (As := [.long v5, .long v7]) (st := []) hF rfl mv_10_common bw_5_121 rfl (by decide) (Nat.le_of_ble_eq_true rfl) dX10_odds_184 (c10_common hr19) ?_
    refine j_lstore (lv' := [(9, .long r19), (4, .int v4), (5, .long v5), (7, .long v7)]) hF (by decide) rfl dX10_odds_187 ?_
    refine j_iload hF 1 rfl dX10_odds_189 ?_
    refine j_if_ne (tgt := 202) hF h (by decide) dX10_odds_191 (fun h => ?_) (fun h => ?_)
    · refine j_lload hF 3 rfl dX10_odds_202 ?_
      refine j_lload hF 0 rfl dX10_odds_204 ?_
      refine j_ldiv hF h dX10_odds_206 (fun h => ?_)
      obtain rfl := ret1 h
      exact j_lret hF hC dX10_odds_207
    · refine j_lload hF 2 rfl dX10_odds_194 ?_
      refine j_lload hF 0 rfl dX10_odds_196 ?_
      refine j_ldiv hF h dX10_odds_198 (fun h => ?_)
      refine j_goto (tgt := 207) hF (by decide) dX10_odds_199 ?_
      obtain rfl := ret1 h
      exact j_lret hF hC dX10_odds_207
  · refine j_ldc2 (v := (-2 : Int64)) hF bw_5_120 dX10_odds_176 ?_
    obtain rfl := ret1 h
    exact j_lret hF hC dX10_odds_179
set_option maxHeartbeats 1000000 in
theorem t10_odds {E : En} {X : Cx} {Q : State → Prop} {N : Nat} {a1 : Int32} {a2 : Int32} {a3 : Int32} {a4 : Int32} {S : Mem} {o : (Int64 × Mem)} (hF : Fx E X cX10_odds RX10 13 (some .long) 4) (h : f10_odds N a1 a2 a3 a4 S = some o) (hC : Q = RQ E X (some (.long o.1)) o.2) : J E X Q S 0 [(0, .ref (eA E 57)), (1, .int a1), (2, .int a2), (3, .int a3), (4, .int a4)] [] := by
  unfold f10_odds at h
  refine j_aload_n hF rfl 0 rfl dX10_odds_0 ?_
  refine j_iload_n hF rfl 1 rfl dX10_odds_1 ?_
  obtain ⟨r1, hr1, h⟩ := bnp_some h
  refine j_callV_i (As := [.int a1]) (st := []) hF rfl mv_10_isLine (by decide) (s_57 E _) rfl bw_5_27 rfl (by decide) (Nat.le_of_ble_eq_true rfl) dX10_odds_2 (c10_isLine hr1) ?_
  refine j_if_eq (tgt := 39) hF h (by decide) dX10_odds_5 (fun h => ?_) (fun h => ?_)
  · refine j_ldc2 (v := (-1 : Int64)) hF bw_5_119 dX10_odds_39 ?_
    obtain rfl := ret1 h
    exact j_lret hF hC dX10_odds_42
  · refine j_iload_n hF rfl 3 rfl dX10_odds_8 ?_
    refine j_iconst (v := (1 : Int32)) hF (by decide) dX10_odds_9 ?_
    refine j_bipush (v := (9 : Int32)) hF (by decide) dX10_odds_10 ?_
    obtain ⟨r2, hr2, h⟩ := bnp_some h
    refine j_callS_i (As := [.int a3, .int (1 : Int32), .int (9 : Int32)]) (st := []) hF rfl mv_10_in bw_4_201 rfl (by decide) (Nat.le_of_ble_eq_true rfl) dX10_odds_12 (c10_in hr2) ?_
    refine j_if_eq (tgt := 39) hF h (by decide) dX10_odds_15 (fun h => ?_) (fun h => ?_)
    · refine j_ldc2 (v := (-1 : Int64)) hF bw_5_119 dX10_odds_39 ?_
      obtain rfl := ret1 h
      exact j_lret hF hC dX10_odds_42
    · refine j_iload_n hF rfl 2 rfl dX10_odds_18 ?_
      refine j_iconst (v := (1 : Int32)) hF (by decide) dX10_odds_19 ?_
      refine j_iload_n hF rfl 3 rfl dX10_odds_20 ?_
      refine j_iconst (v := (1 : Int32)) hF (by decide) dX10_odds_21 ?_
      refine j_isub hF dX10_odds_22 ?_
      obtain ⟨r3, hr3, h⟩ := bnp_some h
      refine j_callS_i (As := [.int a2, .int (1 : Int32), .int (a3 - (1 : Int32))]) (st := []) hF rfl mv_10_in bw_4_201 rfl (by decide) (Nat.le_of_ble_eq_true rfl) dX10_odds_23 (c10_in hr3) ?_
      refine j_if_eq (tgt := 39) hF h (by decide) dX10_odds_26 (fun h => ?_) (fun h => ?_)
      · refine j_ldc2 (v := (-1 : Int64)) hF bw_5_119 dX10_odds_39 ?_
        obtain rfl := ret1 h
        exact j_lret hF hC dX10_odds_42
      · refine j_iload hF 4 rfl dX10_odds_29 ?_
        refine j_iconst (v := (0 : Int32)) hF (by decide) dX10_odds_31 ?_
        refine j_iconst (v := (1 : Int32)) hF (by decide) dX10_odds_32 ?_
        obtain ⟨r4, hr4, h⟩ := bnp_some h
        refine j_callS_i (As := [.int a4, .int (0 : Int32), .int (1 : Int32)]) (st := []) hF rfl mv_10_in bw_4_201 rfl (by decide) (Nat.le_of_ble_eq_true rfl) dX10_odds_33 (c10_in hr4) ?_
        refine j_if_ne (tgt := 43) hF h (by decide) dX10_odds_36 (fun h => ?_) (fun h => ?_)
        · refine j_lconst (v := (0 : Int64)) hF (by decide) dX10_odds_43 ?_
          refine j_lstore (lv' := [(5, .long (0 : Int64)), (0, .ref (eA E 57)), (1, .int a1), (2, .int a2), (3, .int a3), (4, .int a4)]) hF (by decide) rfl dX10_odds_44 ?_
          refine j_lconst (v := (0 : Int64)) hF (by decide) dX10_odds_46 ?_
          refine j_lstore (lv' := [(7, .long (0 : Int64)), (5, .long (0 : Int64)), (0, .ref (eA E 57)), (1, .int a1), (2, .int a2), (3, .int a3), (4, .int a4)]) hF (by decide) rfl dX10_odds_47 ?_
          refine j_iconst (v := (0 : Int32)) hF (by decide) dX10_odds_49 ?_
          refine j_istore (lv' := [(9, .int (0 : Int32)), (7, .long (0 : Int64)), (5, .long (0 : Int64)), (0, .ref (eA E 57)), (1, .int a1), (2, .int a2), (3, .int a3), (4, .int a4)]) hF (by decide) rfl dX10_odds_50 ?_
          obtain ⟨z18, hz18, h⟩ := bnp_some h
          refine j_sub (lv' := [(0, .ref (eA E 57)), (1, .int a1), (2, .int a2), (3, .int a3), (4, .int a4), (5, .long (0 : Int64)), (7, .long (0 : Int64)), (9, .int (0 : Int32))]) hF [3, 4, 5, 6, 7, 2, 1, 0] rfl ?_
          have hx : (fun (x : (Int64 × Int64 × Mem)) => J E X Q x.2.2 169 [(4, .int a4), (5, .long x.1), (7, .long x.2.1)] []) z18 := by
            exact t10_odds_b169 hF h hC
          exact lp_rule (Jh := fun (s : (Int64 × Int64 × Int32 × Mem)) => J E X Q s.2.2.2 52 [(0, .ref (eA E 57)), (1, .int a1), (2, .int a2), (3, .int a3), (4, .int a4), (5, .long s.1), (7, .long s.2.1), (9, .int s.2.2.1)] []) (C := fun (x : (Int64 × Int64 × Mem)) => J E X Q x.2.2 169 [(4, .int a4), (5, .long x.1), (7, .long x.2.1)] []) (fun s o h hC => t10_odds_L52 hF h hC) N ((0 : Int64), (0 : Int64), (0 : Int32), S) z18 hz18 hx
        · refine j_ldc2 (v := (-1 : Int64)) hF bw_5_119 dX10_odds_39 ?_
          obtain rfl := ret1 h
          exact j_lret hF hC dX10_odds_42
set_option maxHeartbeats 1000000 in
theorem c10_odds {E : En} {N : Nat} {a1 : Int32} {a2 : Int32} {a3 : Int32} {a4 : Int32} {S So : Mem} {ro : Int64} (h : f10_odds N a1 a2 a3 a4 S = some (ro, So)) : CT E yX10_odds cX10_odds 13 (some .long) 4 [.ref (eA E 57), .int a1, .int a2, .int a3, .int a4] S (some (.long ro)) So :=
  CT_of (by decide) (Nat.le_of_ble_eq_true rfl) (fun X hF => t10_odds hF h rfl)
def f10_sack_b128 (N : Nat) (v1 : Int32) (v2 : Int32) (v3 : Int32) (v4 : Int32) (v5 : Int32) (v6 : Int32) (S : Mem) : Option ((Int32 × Int32 × Int32) ⊕ (Int32 × Int32)) :=
lt_ (v6 + (1 : Int32)) fun x5 =>
some (.inl (v3, v4, x5))
def f10_sack_b121 (N : Nat) (v1 : Int32) (v2 : Int32) (v5 : Int32) (v6 : Int32) (S : Mem) : Option ((Int32 × Int32 × Int32) ⊕ (Int32 × Int32)) :=
f10_sack_b128 N v1 v2 v5 v6 v5 v6 S
def f10_sack_b90 (N : Nat) (v1 : Int32) (v2 : Int32) (v3 : Int32) (v4 : Int32) (v5 : Int32) (v6 : Int32) (w0 : Int32) (S : Mem) : Option ((Int32 × Int32 × Int32) ⊕ (Int32 × Int32)) :=
if w0 = 0 then
f10_sack_b128 N v1 v2 v3 v4 v5 v6 S
else
if v3 = (-9 : Int32) then
f10_sack_b121 N v1 v2 v5 v6 S
else
bnp (f10_bitsIn N (v5 ||| v6) S) fun r6 =>
bnp (f10_bitsIn N (v3 ||| v4) S) fun r7 =>
if r7 ≤ r6 then
f10_sack_b128 N v1 v2 v3 v4 v5 v6 S
else
f10_sack_b121 N v1 v2 v5 v6 S
def f10_sack_b89 (N : Nat) (v1 : Int32) (v2 : Int32) (v3 : Int32) (v4 : Int32) (v5 : Int32) (v6 : Int32) (S : Mem) : Option ((Int32 × Int32 × Int32) ⊕ (Int32 × Int32)) :=
f10_sack_b90 N v1 v2 v3 v4 v5 v6 (0 : Int32) S
def f10_sack_L47 (N : Nat) (v1 : Int32) (v2 : Int32) (v5 : Int32) (v3 : Int32) (v4 : Int32) (v6 : Int32) (S : Mem) : Option ((Int32 × Int32 × Int32) ⊕ (Int32 × Int32)) :=
if (0 : Int32) < 0 ∨ 2 ≤ (0 : Int32).toNatClampNeg then none else
lt_ ((S 59).1 (0 : Int32).toNatClampNeg) fun x4 =>
if ((1 : Int32) <<< (x4 &&& 31)) ≤ v6 then
some (.inr (v3, v4))
else
if (v5 &&& v6) = 0 then
bnp (f10_trueSum N v5 S) fun r8 =>
bnp (f10_trueSum N v6 S) fun r9 =>
if (r8 - r9) = v1 then
f10_sack_b90 N v1 v2 v3 v4 v5 v6 (1 : Int32) S
else
f10_sack_b89 N v1 v2 v3 v4 v5 v6 S
else
f10_sack_b89 N v1 v2 v3 v4 v5 v6 S
def f10_sack_b134 (N : Nat) (v1 : Int32) (v2 : Int32) (v3 : Int32) (v4 : Int32) (v5 : Int32) (S : Mem) : Option ((Int32 × Int32 × Int32) ⊕ (Int32 × Int32)) :=
lt_ (v5 + (1 : Int32)) fun x11 =>
some (.inl (v3, v4, x11))
def f10_sack_L31 (N : Nat) (v1 : Int32) (v2 : Int32) (v3 : Int32) (v4 : Int32) (v5 : Int32) (S : Mem) : Option ((Int32 × Int32 × Int32) ⊕ (Int32 × Int32)) :=
if (0 : Int32) < 0 ∨ 2 ≤ (0 : Int32).toNatClampNeg then none else
lt_ ((S 59).1 (0 : Int32).toNatClampNeg) fun x3 =>
if ((1 : Int32) <<< (x3 &&& 31)) ≤ v5 then
some (.inr (v3, v4))
else
bnp (lp N (fun s => f10_sack_L47 N v1 v2 v5 s.1 s.2.1 s.2.2 S) (v3, v4, (0 : Int32))) fun z10 =>
f10_sack_b134 N v1 v2 z10.1 z10.2 v5 S
def f10_sack_b160 (N : Nat) (v2 : Int32) (v3 : Int32) (v4 : Int32) (S : Mem) : Option Int32 :=
if v2 = (2 : Int32) then
some (v4)
else
some (v3)
def f10_sack_b140 (N : Nat) (v2 : Int32) (v3 : Int32) (v4 : Int32) (S : Mem) : Option Int32 :=
if v2 = 0 then
if v3 = (-9 : Int32) then
f10_sack_b160 N v2 v3 v4 S
else
bnp (f10_bitsIn N (v3 ||| v4) S) fun r13 =>
some (r13)
else
f10_sack_b160 N v2 v3 v4 S
def f10_sack (N : Nat) (a1 : Int32) (a2 : Int32) (S : Mem) : Option Int32 :=
bnp (f10_in N a1 (0 : Int32) (27 : Int32) S) fun r1 =>
if r1 = 0 then
some ((-1 : Int32))
else
bnp (f10_in N a2 (0 : Int32) (2 : Int32) S) fun r2 =>
if r2 = 0 then
some ((-1 : Int32))
else
bnp (lp N (fun s => f10_sack_L31 N a1 a2 s.1 s.2.1 s.2.2 S) ((-9 : Int32), (-9 : Int32), (0 : Int32))) fun z12 =>
f10_sack_b140 N a2 z12.1 z12.2 S
set_option maxHeartbeats 1000000 in
theorem t10_sack_b128 {E : En} {X : Cx} {Q : State → Prop} {N : Nat} {v1 : Int32} {v2 : Int32} {v3 : Int32} {v4 : Int32} {v5 : Int32} {v6 : Int32} {S : Mem} {o : ((Int32 × Int32 × Int32) ⊕ (Int32 × Int32))} (hF : Fx E X cX10_sack RX10 8 (some .int) 1) (h : f10_sack_b128 N v1 v2 v3 v4 v5 v6 S = some o) (hC : Sum.elim (fun (s : (Int32 × Int32 × Int32)) => J E X Q S 47 [(0, .ref (eA E 57)), (1, .int v1), (2, .int v2), (3, .int s.1), (4, .int s.2.1), (5, .int v5), (6, .int s.2.2)] []) (fun (x : (Int32 × Int32)) => J E X Q S 134 [(0, .ref (eA E 57)), (1, .int v1), (2, .int v2), (3, .int x.1), (4, .int x.2), (5, .int v5)] []) o) : J E X Q S 128 [(0, .ref (eA E 57)), (1, .int v1), (2, .int v2), (3, .int v3), (4, .int v4), (5, .int v5), (6, .int v6)] [] := by
  unfold f10_sack_b128 at h
  refine j_iinc (v := (v6 + (1 : Int32))) (lv' := [(6, .int (v6 + (1 : Int32))), (0, .ref (eA E 57)), (1, .int v1), (2, .int v2), (3, .int v3), (4, .int v4), (5, .int v5)]) (q := 6) hF rfl (congrArg (fun z => v6 + z) (by decide)) (by decide) rfl dX10_sack_128 ?_
  refine j_nmL h (fun x5 h => ?_)
  refine j_goto (tgt := 47) hF (by decide) dX10_sack_131 ?_
  obtain rfl := ret1 h
  refine j_sub (lv' := [(0, .ref (eA E 57)), (1, .int v1), (2, .int v2), (3, .int v3), (4, .int v4), (5, .int v5), (6, .int x5)]) hF [1, 2, 3, 4, 5, 6, 0] rfl ?_
  exact hC
set_option maxHeartbeats 1000000 in
theorem t10_sack_b121 {E : En} {X : Cx} {Q : State → Prop} {N : Nat} {v1 : Int32} {v2 : Int32} {v5 : Int32} {v6 : Int32} {S : Mem} {o : ((Int32 × Int32 × Int32) ⊕ (Int32 × Int32))} (hF : Fx E X cX10_sack RX10 8 (some .int) 1) (h : f10_sack_b121 N v1 v2 v5 v6 S = some o) (hC : Sum.elim (fun (s : (Int32 × Int32 × Int32)) => J E X Q S 47 [(0, .ref (eA E 57)), (1, .int v1), (2, .int v2), (3, .int s.1), (4, .int s.2.1), (5, .int v5), (6, .int s.2.2)] []) (fun (x : (Int32 × Int32)) => J E X Q S 134 [(0, .ref (eA E 57)), (1, .int v1), (2, .int v2), (3, .int x.1), (4, .int x.2), (5, .int v5)] []) o) : J E X Q S 121 [(0, .ref (eA E 57)), (1, .int v1), (2, .int v2), (5, .int v5), (6, .int v6)] [] := by
  unfold f10_sack_b121 at h
  refine j_iload hF 3 rfl dX10_sack_121 ?_
  refine j_istore_n (lv' := [(3, .int v5), (0, .ref (eA E 57)), (1, .int v1), (2, .int v2), (5, .int v5), (6, .int v6)]) hF rfl (by decide) rfl dX10_sack_123 ?_
  refine j_iload hF 5 rfl dX10_sack_124 ?_
  refine j_istore (lv' := [(4, .int v6), (3, .int v5), (0, .ref (eA E 57)), (1, .int v1), (2, .int v2), (5, .int v5), (6, .int v6)]) hF (by decide) rfl dX10_sack_126 ?_
  refine j_sub (lv' := [(0, .ref (eA E 57)), (1, .int v1), (2, .int v2), (3, .int v5), (4, .int v6), (5, .int v5), (6, .int v6)]) hF [2, 3, 4, 1, 0, 5, 6] rfl ?_
  exact t10_sack_b128 hF h hC
set_option maxHeartbeats 1000000 in
theorem t10_sack_b90 {E : En} {X : Cx} {Q : State → Prop} {N : Nat} {v1 : Int32} {v2 : Int32} {v3 : Int32} {v4 : Int32} {v5 : Int32} {v6 : Int32} {w0 : Int32} {S : Mem} {o : ((Int32 × Int32 × Int32) ⊕ (Int32 × Int32))} (hF : Fx E X cX10_sack RX10 8 (some .int) 1) (h : f10_sack_b90 N v1 v2 v3 v4 v5 v6 w0 S = some o) (hC : Sum.elim (fun (s : (Int32 × Int32 × Int32)) => J E X Q S 47 [(0, .ref (eA E 57)), (1, .int v1), (2, .int v2), (3, .int s.1), (4, .int s.2.1), (5, .int v5), (6, .int s.2.2)] []) (fun (x : (Int32 × Int32)) => J E X Q S 134 [(0, .ref (eA E 57)), (1, .int v1), (2, .int v2), (3, .int x.1), (4, .int x.2), (5, .int v5)] []) o) : J E X Q S 90 [(0, .ref (eA E 57)), (1, .int v1), (2, .int v2), (3, .int v3), (4, .int v4), (5, .int v5), (6, .int v6)] [.int w0] := by
  unfold f10_sack_b90 at h
  refine j_istore (lv' := [(7, .int w0), (0, .ref (eA E 57)), (1, .int v1), (2, .int v2), (3, .int v3), (4, .int v4), (5, .int v5), (6, .int v6)]) hF (by decide) rfl dX10_sack_90 ?_
  refine j_iload hF 0 rfl dX10_sack_92 ?_
  refine j_if_eq (tgt := 128) hF h (by decide) dX10_sack_94 (fun h => ?_) (fun h => ?_)
  · refine j_sub (lv' := [(0, .ref (eA E 57)), (1, .int v1), (2, .int v2), (3, .int v3), (4, .int v4), (5, .int v5), (6, .int v6)]) hF [1, 2, 3, 4, 5, 6, 7] rfl ?_
    exact t10_sack_b128 hF h hC
  · refine j_iload_n hF rfl 4 rfl dX10_sack_97 ?_
    refine j_bipush (v := (-9 : Int32)) hF (by decide) dX10_sack_98 ?_
    refine j_icmp_eq (tgt := 121) hF h (by decide) dX10_sack_100 (fun h => ?_) (fun h => ?_)
    · refine j_sub (lv' := [(0, .ref (eA E 57)), (1, .int v1), (2, .int v2), (5, .int v5), (6, .int v6)]) hF [1, 2, 3, 6, 7] rfl ?_
      exact t10_sack_b121 hF h hC
    · refine j_iload hF 6 rfl dX10_sack_103 ?_
      refine j_iload hF 7 rfl dX10_sack_105 ?_
      refine j_ior hF dX10_sack_107 ?_
      obtain ⟨r6, hr6, h⟩ := bnp_some h
      refine j_callS_i (As := [.int (v5 ||| v6)]) (st := []) hF rfl mv_10_bitsIn bw_5_79 rfl (by decide) (Nat.le_of_ble_eq_true rfl) dX10_sack_108 (c10_bitsIn hr6) ?_
      refine j_iload_n hF rfl 4 rfl dX10_sack_111 ?_
      refine j_iload hF 5 rfl dX10_sack_112 ?_
      refine j_ior hF dX10_sack_114 ?_
      obtain ⟨r7, hr7, h⟩ := bnp_some h
      refine j_callS_i (As := [.int (v3 ||| v4)]) (st := [.int r6]) hF rfl mv_10_bitsIn bw_5_79 rfl (by decide) (Nat.le_of_ble_eq_true rfl) dX10_sack_115 (c10_bitsIn hr7) ?_
      refine j_icmp_ge (tgt := 128) hF h (by decide) dX10_sack_118 (fun h => ?_) (fun h => ?_)
      · refine j_sub (lv' := [(0, .ref (eA E 57)), (1, .int v1), (2, .int v2), (3, .int v3), (4, .int v4), (5, .int v5), (6, .int v6)]) hF [1, 2, 3, 4, 5, 6, 7] rfl ?_
        exact t10_sack_b128 hF h hC
      · refine j_sub (lv' := [(0, .ref (eA E 57)), (1, .int v1), (2, .int v2), (5, .int v5), (6, .int v6)]) hF [1, 2, 3, 6, 7] rfl ?_
        exact t10_sack_b121 hF h hC
set_option maxHeartbeats 1000000 in
theorem t10_sack_b89 {E : En} {X : Cx} {Q : State → Prop} {N : Nat} {v1 : Int32} {v2 : Int32} {v3 : Int32} {v4 : Int32} {v5 : Int32} {v6 : Int32} {S : Mem} {o : ((Int32 × Int32 × Int32) ⊕ (Int32 × Int32))} (hF : Fx E X cX10_sack RX10 8 (some .int) 1) (h : f10_sack_b89 N v1 v2 v3 v4 v5 v6 S = some o) (hC : Sum.elim (fun (s : (Int32 × Int32 × Int32)) => J E X Q S 47 [(0, .ref (eA E 57)), (1, .int v1), (2, .int v2), (3, .int s.1), (4, .int s.2.1), (5, .int v5), (6, .int s.2.2)] []) (fun (x : (Int32 × Int32)) => J E X Q S 134 [(0, .ref (eA E 57)), (1, .int v1), (2, .int v2), (3, .int x.1), (4, .int x.2), (5, .int v5)] []) o) : J E X Q S 89 [(0, .ref (eA E 57)), (1, .int v1), (2, .int v2), (3, .int v3), (4, .int v4), (5, .int v5), (6, .int v6)] [] := by
  unfold f10_sack_b89 at h
  refine j_iconst (v := (0 : Int32)) hF (by decide) dX10_sack_89 ?_
  exact t10_sack_b90 hF h hC
set_option maxHeartbeats 1000000 in
theorem t10_sack_L47 {E : En} {X : Cx} {Q : State → Prop} {N : Nat} {v1 : Int32} {v2 : Int32} {v5 : Int32} {v3 : Int32} {v4 : Int32} {v6 : Int32} {S : Mem} {o : ((Int32 × Int32 × Int32) ⊕ (Int32 × Int32))} (hF : Fx E X cX10_sack RX10 8 (some .int) 1) (h : f10_sack_L47 N v1 v2 v5 v3 v4 v6 S = some o) (hC : Sum.elim (fun (s : (Int32 × Int32 × Int32)) => J E X Q S 47 [(0, .ref (eA E 57)), (1, .int v1), (2, .int v2), (3, .int s.1), (4, .int s.2.1), (5, .int v5), (6, .int s.2.2)] []) (fun (x : (Int32 × Int32)) => J E X Q S 134 [(0, .ref (eA E 57)), (1, .int v1), (2, .int v2), (3, .int x.1), (4, .int x.2), (5, .int v5)] []) o) : J E X Q S 47 [(0, .ref (eA E 57)), (1, .int v1), (2, .int v2), (3, .int v3), (4, .int v4), (5, .int v5), (6, .int v6)] [] := by
  unfold f10_sack_L47 at h
  refine j_iload hF 6 rfl dX10_sack_47 ?_
  refine j_iconst (v := (1 : Int32)) hF (by decide) dX10_sack_49 ?_
  refine j_aload_n hF rfl 0 rfl dX10_sack_50 ?_
  refine gf10_3 hF (by decide) (s_57 E _) rfl bw_4_138 dX10_sack_51 ?_
  refine j_iconst (v := (0 : Int32)) hF (by decide) dX10_sack_54 ?_
  refine j_iald hF (by decide) (s_59 E) h dX10_sack_55 (fun h => ?_)
  refine j_nmT h (fun x4 h => ?_)
  refine j_ishl hF dX10_sack_56 ?_
  refine j_icmp_ge (tgt := 134) hF h (by decide) dX10_sack_57 (fun h => ?_) (fun h => ?_)
  · obtain rfl := ret1 h
    refine j_sub (lv' := [(0, .ref (eA E 57)), (1, .int v1), (2, .int v2), (3, .int v3), (4, .int v4), (5, .int v5)]) hF [0, 1, 2, 3, 4, 5] rfl ?_
    exact hC
  · refine j_iload hF 5 rfl dX10_sack_60 ?_
    refine j_iload hF 6 rfl dX10_sack_62 ?_
    refine j_iand hF dX10_sack_64 ?_
    refine j_if_ne (tgt := 89) hF h (by decide) dX10_sack_65 (fun h => ?_) (fun h => ?_)
    · exact t10_sack_b89 hF h hC
    · refine j_aload_n hF rfl 0 rfl dX10_sack_68 ?_
      refine j_iload hF 5 rfl dX10_sack_69 ?_
      obtain ⟨r8, hr8, h⟩ := bnp_some h
      refine j_callV_i (As := [.int v5]) (st := []) hF rfl mv_10_trueSum (by decide) (s_57 E _) rfl bw_5_11 rfl (by decide) (Nat.le_of_ble_eq_true rfl) dX10_sack_71 (c10_trueSum hr8) ?_
      refine j_aload_n hF rfl 0 rfl dX10_sack_74 ?_
      refine j_iload hF 6 rfl dX10_sack_75 ?_
      obtain ⟨r9, hr9, h⟩ := bnp_some h
      refine j_callV_i (As := [.int v6]) (st := [.int r8]) hF rfl mv_10_trueSum (by decide) (s_57 E _) rfl bw_5_11 rfl (by decide) (Nat.le_of_ble_eq_true rfl) dX10_sack_77 (c10_trueSum hr9) ?_
      refine j_isub hF dX10_sack_80 ?_
      refine j_iload_n hF rfl 1 rfl dX10_sack_81 ?_
      refine j_icmp_ne (tgt := 89) hF h (by decide) dX10_sack_82 (fun h => ?_) (fun h => ?_)
      · exact t10_sack_b89 hF h hC
      · refine j_iconst (v := (1 : Int32)) hF (by decide) dX10_sack_85 ?_
        refine j_goto (tgt := 90) hF (by decide) dX10_sack_86 ?_
        exact t10_sack_b90 hF h hC
set_option maxHeartbeats 1000000 in
theorem t10_sack_b134 {E : En} {X : Cx} {Q : State → Prop} {N : Nat} {v1 : Int32} {v2 : Int32} {v3 : Int32} {v4 : Int32} {v5 : Int32} {S : Mem} {o : ((Int32 × Int32 × Int32) ⊕ (Int32 × Int32))} (hF : Fx E X cX10_sack RX10 8 (some .int) 1) (h : f10_sack_b134 N v1 v2 v3 v4 v5 S = some o) (hC : Sum.elim (fun (s : (Int32 × Int32 × Int32)) => J E X Q S 31 [(0, .ref (eA E 57)), (1, .int v1), (2, .int v2), (3, .int s.1), (4, .int s.2.1), (5, .int s.2.2)] []) (fun (x : (Int32 × Int32)) => J E X Q S 140 [(2, .int v2), (3, .int x.1), (4, .int x.2)] []) o) : J E X Q S 134 [(0, .ref (eA E 57)), (1, .int v1), (2, .int v2), (3, .int v3), (4, .int v4), (5, .int v5)] [] := by
  unfold f10_sack_b134 at h
  refine j_iinc (v := (v5 + (1 : Int32))) (lv' := [(5, .int (v5 + (1 : Int32))), (0, .ref (eA E 57)), (1, .int v1), (2, .int v2), (3, .int v3), (4, .int v4)]) (q := 5) hF rfl (congrArg (fun z => v5 + z) (by decide)) (by decide) rfl dX10_sack_134 ?_
  refine j_nmL h (fun x11 h => ?_)
  refine j_goto (tgt := 31) hF (by decide) dX10_sack_137 ?_
  obtain rfl := ret1 h
  refine j_sub (lv' := [(0, .ref (eA E 57)), (1, .int v1), (2, .int v2), (3, .int v3), (4, .int v4), (5, .int x11)]) hF [1, 2, 3, 4, 5, 0] rfl ?_
  exact hC
set_option maxHeartbeats 1000000 in
theorem t10_sack_L31 {E : En} {X : Cx} {Q : State → Prop} {N : Nat} {v1 : Int32} {v2 : Int32} {v3 : Int32} {v4 : Int32} {v5 : Int32} {S : Mem} {o : ((Int32 × Int32 × Int32) ⊕ (Int32 × Int32))} (hF : Fx E X cX10_sack RX10 8 (some .int) 1) (h : f10_sack_L31 N v1 v2 v3 v4 v5 S = some o) (hC : Sum.elim (fun (s : (Int32 × Int32 × Int32)) => J E X Q S 31 [(0, .ref (eA E 57)), (1, .int v1), (2, .int v2), (3, .int s.1), (4, .int s.2.1), (5, .int s.2.2)] []) (fun (x : (Int32 × Int32)) => J E X Q S 140 [(2, .int v2), (3, .int x.1), (4, .int x.2)] []) o) : J E X Q S 31 [(0, .ref (eA E 57)), (1, .int v1), (2, .int v2), (3, .int v3), (4, .int v4), (5, .int v5)] [] := by
  unfold f10_sack_L31 at h
  refine j_iload hF 5 rfl dX10_sack_31 ?_
  refine j_iconst (v := (1 : Int32)) hF (by decide) dX10_sack_33 ?_
  refine j_aload_n hF rfl 0 rfl dX10_sack_34 ?_
  refine gf10_3 hF (by decide) (s_57 E _) rfl bw_4_138 dX10_sack_35 ?_
  refine j_iconst (v := (0 : Int32)) hF (by decide) dX10_sack_38 ?_
  refine j_iald hF (by decide) (s_59 E) h dX10_sack_39 (fun h => ?_)
  refine j_nmT h (fun x3 h => ?_)
  refine j_ishl hF dX10_sack_40 ?_
  refine j_icmp_ge (tgt := 140) hF h (by decide) dX10_sack_41 (fun h => ?_) (fun h => ?_)
  · obtain rfl := ret1 h
    refine j_sub (lv' := [(2, .int v2), (3, .int v3), (4, .int v4)]) hF [2, 3, 4] rfl ?_
    exact hC
  · refine j_iconst (v := (0 : Int32)) hF (by decide) dX10_sack_44 ?_
    refine j_istore (lv' := [(6, .int (0 : Int32)), (0, .ref (eA E 57)), (1, .int v1), (2, .int v2), (3, .int v3), (4, .int v4), (5, .int v5)]) hF (by decide) rfl dX10_sack_45 ?_
    obtain ⟨z10, hz10, h⟩ := bnp_some h
    refine j_sub (lv' := [(0, .ref (eA E 57)), (1, .int v1), (2, .int v2), (3, .int v3), (4, .int v4), (5, .int v5), (6, .int (0 : Int32))]) hF [1, 2, 3, 4, 5, 6, 0] rfl ?_
    have hx : (fun (x : (Int32 × Int32)) => J E X Q S 134 [(0, .ref (eA E 57)), (1, .int v1), (2, .int v2), (3, .int x.1), (4, .int x.2), (5, .int v5)] []) z10 := by
      exact t10_sack_b134 hF h hC
    exact lp_rule (Jh := fun (s : (Int32 × Int32 × Int32)) => J E X Q S 47 [(0, .ref (eA E 57)), (1, .int v1), (2, .int v2), (3, .int s.1), (4, .int s.2.1), (5, .int v5), (6, .int s.2.2)] []) (C := fun (x : (Int32 × Int32)) => J E X Q S 134 [(0, .ref (eA E 57)), (1, .int v1), (2, .int v2), (3, .int x.1), (4, .int x.2), (5, .int v5)] []) (fun s o h hC => t10_sack_L47 hF h hC) N (v3, v4, (0 : Int32)) z10 hz10 hx
set_option maxHeartbeats 1000000 in
theorem t10_sack_b160 {E : En} {X : Cx} {Q : State → Prop} {N : Nat} {v2 : Int32} {v3 : Int32} {v4 : Int32} {S : Mem} {o : Int32} (hF : Fx E X cX10_sack RX10 8 (some .int) 1) (h : f10_sack_b160 N v2 v3 v4 S = some o) (hC : Q = RQ E X (some (.int o)) S) : J E X Q S 160 [(2, .int v2), (3, .int v3), (4, .int v4)] [] := by
  unfold f10_sack_b160 at h
  refine j_iload_n hF rfl 0 rfl dX10_sack_160 ?_
  refine j_iconst (v := (2 : Int32)) hF (by decide) dX10_sack_161 ?_
  refine j_icmp_ne (tgt := 170) hF h (by decide) dX10_sack_162 (fun h => ?_) (fun h => ?_)
  · refine j_iload_n hF rfl 1 rfl dX10_sack_170 ?_
    obtain rfl := ret1 h
    exact j_iret hF hC dX10_sack_171
  · refine j_iload hF 2 rfl dX10_sack_165 ?_
    refine j_goto (tgt := 171) hF (by decide) dX10_sack_167 ?_
    obtain rfl := ret1 h
    exact j_iret hF hC dX10_sack_171
set_option maxHeartbeats 1000000 in
theorem t10_sack_b140 {E : En} {X : Cx} {Q : State → Prop} {N : Nat} {v2 : Int32} {v3 : Int32} {v4 : Int32} {S : Mem} {o : Int32} (hF : Fx E X cX10_sack RX10 8 (some .int) 1) (h : f10_sack_b140 N v2 v3 v4 S = some o) (hC : Q = RQ E X (some (.int o)) S) : J E X Q S 140 [(2, .int v2), (3, .int v3), (4, .int v4)] [] := by
  unfold f10_sack_b140 at h
  refine j_iload_n hF rfl 0 rfl dX10_sack_140 ?_
  refine j_if_ne (tgt := 160) hF h (by decide) dX10_sack_141 (fun h => ?_) (fun h => ?_)
  · exact t10_sack_b160 hF h hC
  · refine j_iload_n hF rfl 1 rfl dX10_sack_144 ?_
    refine j_bipush (v := (-9 : Int32)) hF (by decide) dX10_sack_145 ?_
    refine j_icmp_eq (tgt := 160) hF h (by decide) dX10_sack_147 (fun h => ?_) (fun h => ?_)
    · exact t10_sack_b160 hF h hC
    · refine j_iload_n hF rfl 1 rfl dX10_sack_150 ?_
      refine j_iload hF 2 rfl dX10_sack_151 ?_
      refine j_ior hF dX10_sack_153 ?_
      obtain ⟨r13, hr13, h⟩ := bnp_some h
      refine j_callS_i (As := [.int (v3 ||| v4)]) (st := []) hF rfl mv_10_bitsIn bw_5_79 rfl (by decide) (Nat.le_of_ble_eq_true rfl) dX10_sack_154 (c10_bitsIn hr13) ?_
      refine j_goto (tgt := 171) hF (by decide) dX10_sack_157 ?_
      obtain rfl := ret1 h
      exact j_iret hF hC dX10_sack_171
set_option maxHeartbeats 1000000 in
theorem t10_sack {E : En} {X : Cx} {Q : State → Prop} {N : Nat} {a1 : Int32} {a2 : Int32} {S : Mem} {o : Int32} (hF : Fx E X cX10_sack RX10 8 (some .int) 1) (h : f10_sack N a1 a2 S = some o) (hC : Q = RQ E X (some (.int o)) S) : J E X Q S 0 [(0, .ref (eA E 57)), (1, .int a1), (2, .int a2)] [] := by
  unfold f10_sack at h
  refine j_iload_n hF rfl 1 rfl dX10_sack_0 ?_
  refine j_iconst (v := (0 : Int32)) hF (by decide) dX10_sack_1 ?_
  refine j_bipush (v := (27 : Int32)) hF (by decide) dX10_sack_2 ?_
  obtain ⟨r1, hr1, h⟩ := bnp_some h
  refine j_callS_i (As := [.int a1, .int (0 : Int32), .int (27 : Int32)]) (st := []) hF rfl mv_10_in bw_4_201 rfl (by decide) (Nat.le_of_ble_eq_true rfl) dX10_sack_4 (c10_in hr1) ?_
  refine j_if_eq (tgt := 19) hF h (by decide) dX10_sack_7 (fun h => ?_) (fun h => ?_)
  · refine j_iconst (v := (-1 : Int32)) hF (by decide) dX10_sack_19 ?_
    obtain rfl := ret1 h
    exact j_iret hF hC dX10_sack_20
  · refine j_iload_n hF rfl 2 rfl dX10_sack_10 ?_
    refine j_iconst (v := (0 : Int32)) hF (by decide) dX10_sack_11 ?_
    refine j_iconst (v := (2 : Int32)) hF (by decide) dX10_sack_12 ?_
    obtain ⟨r2, hr2, h⟩ := bnp_some h
    refine j_callS_i (As := [.int a2, .int (0 : Int32), .int (2 : Int32)]) (st := []) hF rfl mv_10_in bw_4_201 rfl (by decide) (Nat.le_of_ble_eq_true rfl) dX10_sack_13 (c10_in hr2) ?_
    refine j_if_ne (tgt := 21) hF h (by decide) dX10_sack_16 (fun h => ?_) (fun h => ?_)
    · refine j_bipush (v := (-9 : Int32)) hF (by decide) dX10_sack_21 ?_
      refine j_istore_n (lv' := [(3, .int (-9 : Int32)), (0, .ref (eA E 57)), (1, .int a1), (2, .int a2)]) hF rfl (by decide) rfl dX10_sack_23 ?_
      refine j_bipush (v := (-9 : Int32)) hF (by decide) dX10_sack_24 ?_
      refine j_istore (lv' := [(4, .int (-9 : Int32)), (3, .int (-9 : Int32)), (0, .ref (eA E 57)), (1, .int a1), (2, .int a2)]) hF (by decide) rfl dX10_sack_26 ?_
      refine j_iconst (v := (0 : Int32)) hF (by decide) dX10_sack_28 ?_
      refine j_istore (lv' := [(5, .int (0 : Int32)), (4, .int (-9 : Int32)), (3, .int (-9 : Int32)), (0, .ref (eA E 57)), (1, .int a1), (2, .int a2)]) hF (by decide) rfl dX10_sack_29 ?_
      obtain ⟨z12, hz12, h⟩ := bnp_some h
      refine j_sub (lv' := [(0, .ref (eA E 57)), (1, .int a1), (2, .int a2), (3, .int (-9 : Int32)), (4, .int (-9 : Int32)), (5, .int (0 : Int32))]) hF [3, 4, 5, 2, 1, 0] rfl ?_
      have hx : (fun (x : (Int32 × Int32)) => J E X Q S 140 [(2, .int a2), (3, .int x.1), (4, .int x.2)] []) z12 := by
        exact t10_sack_b140 hF h hC
      exact lp_rule (Jh := fun (s : (Int32 × Int32 × Int32)) => J E X Q S 31 [(0, .ref (eA E 57)), (1, .int a1), (2, .int a2), (3, .int s.1), (4, .int s.2.1), (5, .int s.2.2)] []) (C := fun (x : (Int32 × Int32)) => J E X Q S 140 [(2, .int a2), (3, .int x.1), (4, .int x.2)] []) (fun s o h hC => t10_sack_L31 hF h hC) N ((-9 : Int32), (-9 : Int32), (0 : Int32)) z12 hz12 hx
    · refine j_iconst (v := (-1 : Int32)) hF (by decide) dX10_sack_19 ?_
      obtain rfl := ret1 h
      exact j_iret hF hC dX10_sack_20
set_option maxHeartbeats 1000000 in
theorem c10_sack {E : En} {N : Nat} {a1 : Int32} {a2 : Int32} {S : Mem} {ro : Int32} (h : f10_sack N a1 a2 S = some ro) : CT E yX10_sack cX10_sack 8 (some .int) 1 [.ref (eA E 57), .int a1, .int a2] S (some (.int ro)) S :=
  CT_of (by decide) (Nat.le_of_ble_eq_true rfl) (fun X hF => t10_sack hF h rfl)
def f10_byTurns_b119 (N : Nat) (v2 : Int32) (v3 : Int32) (v4 : Int32) (v5 : Int32) (S : Mem) : Option ((Int32 × Int32) ⊕ (Int32)) :=
lt_ (v5 + (1 : Int32)) fun x8 =>
some (.inl (v4, x8))
def f10_byTurns_b117 (N : Nat) (v2 : Int32) (v3 : Int32) (v5 : Int32) (w0 : Int32) (S : Mem) : Option ((Int32 × Int32) ⊕ (Int32)) :=
f10_byTurns_b119 N v2 v3 w0 v5 S
def f10_byTurns_L49 (N : Nat) (v2 : Int32) (v3 : Int32) (v4 : Int32) (v5 : Int32) (S : Mem) : Option ((Int32 × Int32) ⊕ (Int32)) :=
if (0 : Int32) < 0 ∨ 2 ≤ (0 : Int32).toNatClampNeg then none else
lt_ ((S 59).1 (0 : Int32).toNatClampNeg) fun x7 =>
if x7 ≤ v5 then
some (.inr (v4))
else
if ((v2 >>> (v5 &&& 31)) &&& (1 : Int32)) = 0 then
if (v2 ||| ((1 : Int32) <<< (v5 &&& 31))) < 0 ∨ 8 ≤ (v2 ||| ((1 : Int32) <<< (v5 &&& 31))).toNatClampNeg then none else
lt_ ((S 69).1 (v2 ||| ((1 : Int32) <<< (v5 &&& 31))).toNatClampNeg) fun x9 =>
if v3 = 0 then
if v4 ≤ x9 then
f10_byTurns_b117 N v2 v3 v5 v4 S
else
f10_byTurns_b117 N v2 v3 v5 x9 S
else
if x9 ≤ v4 then
f10_byTurns_b117 N v2 v3 v5 v4 S
else
f10_byTurns_b117 N v2 v3 v5 x9 S
else
f10_byTurns_b119 N v2 v3 v4 v5 S
def f10_byTurns_b125 (N : Nat) (v2 : Int32) (v4 : Int32) (S : Mem) : Option ((Int32 × Mem) ⊕ (Mem)) :=
if v2 < 0 ∨ 8 ≤ v2.toNatClampNeg then none else
lt_ (wr S 69 v2.toNatClampNeg v4) fun S11 =>
lt_ (v2 + (-1 : Int32)) fun x12 =>
some (.inl (x12, S11))
def f10_byTurns_b31 (N : Nat) (v2 : Int32) (w0 : Int32) (S : Mem) : Option ((Int32 × Mem) ⊕ (Mem)) :=
bnp (f10_trueSum N v2 S) fun r4 =>
if (0 : Int32) < 0 ∨ 2 ≤ (0 : Int32).toNatClampNeg then none else
lt_ ((S 61).1 (0 : Int32).toNatClampNeg) fun x5 =>
if x5 = (0 : Int32) then none else
lt_ (r4 - r4 / x5 * x5) fun x6 =>
bnp (lp N (fun s => f10_byTurns_L49 N v2 w0 s.1 s.2 S) (x6, (0 : Int32))) fun z10 =>
f10_byTurns_b125 N v2 z10 S
def f10_byTurns_L13 (N : Nat) (v2 : Int32) (S : Mem) : Option ((Int32 × Mem) ⊕ (Mem)) :=
if v2 < 0 then
some (.inr (S))
else
bnp (f10_bitsIn N v2 S) fun r3 =>
if (2 : Int32) = (0 : Int32) then none else
if (r3 - r3 / (2 : Int32) * (2 : Int32)) = 0 then
f10_byTurns_b31 N v2 (1 : Int32) S
else
f10_byTurns_b31 N v2 (0 : Int32) S
def f10_byTurns_b139 (N : Nat) (S : Mem) : Option (Int32 × Mem) :=
if (0 : Int32) < 0 ∨ 8 ≤ (0 : Int32).toNatClampNeg then none else
lt_ ((S 69).1 (0 : Int32).toNatClampNeg) fun x14 =>
some ((x14, S))
def f10_byTurns (N : Nat) (S : Mem) : Option (Int32 × Mem) :=
if (0 : Int32) < 0 ∨ 2 ≤ (0 : Int32).toNatClampNeg then none else
lt_ ((S 59).1 (0 : Int32).toNatClampNeg) fun x1 =>
lt_ (((1 : Int32) <<< (x1 &&& 31)) - (1 : Int32)) fun x2 =>
bnp (lp N (fun s => f10_byTurns_L13 N s.1 s.2) (x2, S)) fun z13 =>
f10_byTurns_b139 N z13
set_option maxHeartbeats 1000000 in
theorem t10_byTurns_b119 {E : En} {X : Cx} {Q : State → Prop} {N : Nat} {v2 : Int32} {v3 : Int32} {v4 : Int32} {v5 : Int32} {S : Mem} {o : ((Int32 × Int32) ⊕ (Int32))} (hF : Fx E X cX10_byTurns RX10 7 (some .int) 1) (h : f10_byTurns_b119 N v2 v3 v4 v5 S = some o) (hC : Sum.elim (fun (s : (Int32 × Int32)) => J E X Q S 49 [(0, .ref (eA E 57)), (2, .int v2), (3, .int v3), (4, .int s.1), (5, .int s.2)] []) (fun (x : (Int32)) => J E X Q S 125 [(0, .ref (eA E 57)), (2, .int v2), (4, .int x)] []) o) : J E X Q S 119 [(0, .ref (eA E 57)), (2, .int v2), (3, .int v3), (4, .int v4), (5, .int v5)] [] := by
  unfold f10_byTurns_b119 at h
  refine j_iinc (v := (v5 + (1 : Int32))) (lv' := [(5, .int (v5 + (1 : Int32))), (0, .ref (eA E 57)), (2, .int v2), (3, .int v3), (4, .int v4)]) (q := 4) hF rfl (congrArg (fun z => v5 + z) (by decide)) (by decide) rfl dX10_byTurns_119 ?_
  refine j_nmL h (fun x8 h => ?_)
  refine j_goto (tgt := 49) hF (by decide) dX10_byTurns_122 ?_
  obtain rfl := ret1 h
  refine j_sub (lv' := [(0, .ref (eA E 57)), (2, .int v2), (3, .int v3), (4, .int v4), (5, .int x8)]) hF [1, 2, 3, 4, 0] rfl ?_
  exact hC
set_option maxHeartbeats 1000000 in
theorem t10_byTurns_b117 {E : En} {X : Cx} {Q : State → Prop} {N : Nat} {v2 : Int32} {v3 : Int32} {v5 : Int32} {w0 : Int32} {S : Mem} {o : ((Int32 × Int32) ⊕ (Int32))} (hF : Fx E X cX10_byTurns RX10 7 (some .int) 1) (h : f10_byTurns_b117 N v2 v3 v5 w0 S = some o) (hC : Sum.elim (fun (s : (Int32 × Int32)) => J E X Q S 49 [(0, .ref (eA E 57)), (2, .int v2), (3, .int v3), (4, .int s.1), (5, .int s.2)] []) (fun (x : (Int32)) => J E X Q S 125 [(0, .ref (eA E 57)), (2, .int v2), (4, .int x)] []) o) : J E X Q S 117 [(0, .ref (eA E 57)), (2, .int v2), (3, .int v3), (5, .int v5)] [.int w0] := by
  unfold f10_byTurns_b117 at h
  refine j_istore (lv' := [(4, .int w0), (0, .ref (eA E 57)), (2, .int v2), (3, .int v3), (5, .int v5)]) hF (by decide) rfl dX10_byTurns_117 ?_
  refine j_sub (lv' := [(0, .ref (eA E 57)), (2, .int v2), (3, .int v3), (4, .int w0), (5, .int v5)]) hF [1, 2, 3, 0, 4] rfl ?_
  exact t10_byTurns_b119 hF h hC
set_option maxHeartbeats 1000000 in
theorem t10_byTurns_L49 {E : En} {X : Cx} {Q : State → Prop} {N : Nat} {v2 : Int32} {v3 : Int32} {v4 : Int32} {v5 : Int32} {S : Mem} {o : ((Int32 × Int32) ⊕ (Int32))} (hF : Fx E X cX10_byTurns RX10 7 (some .int) 1) (h : f10_byTurns_L49 N v2 v3 v4 v5 S = some o) (hC : Sum.elim (fun (s : (Int32 × Int32)) => J E X Q S 49 [(0, .ref (eA E 57)), (2, .int v2), (3, .int v3), (4, .int s.1), (5, .int s.2)] []) (fun (x : (Int32)) => J E X Q S 125 [(0, .ref (eA E 57)), (2, .int v2), (4, .int x)] []) o) : J E X Q S 49 [(0, .ref (eA E 57)), (2, .int v2), (3, .int v3), (4, .int v4), (5, .int v5)] [] := by
  unfold f10_byTurns_L49 at h
  refine j_iload hF 4 rfl dX10_byTurns_49 ?_
  refine j_aload_n hF rfl 0 rfl dX10_byTurns_51 ?_
  refine gf10_3 hF (by decide) (s_57 E _) rfl bw_4_138 dX10_byTurns_52 ?_
  refine j_iconst (v := (0 : Int32)) hF (by decide) dX10_byTurns_55 ?_
  refine j_iald hF (by decide) (s_59 E) h dX10_byTurns_56 (fun h => ?_)
  refine j_nmT h (fun x7 h => ?_)
  refine j_icmp_ge (tgt := 125) hF h (by decide) dX10_byTurns_57 (fun h => ?_) (fun h => ?_)
  · obtain rfl := ret1 h
    refine j_sub (lv' := [(0, .ref (eA E 57)), (2, .int v2), (4, .int v4)]) hF [0, 1, 3] rfl ?_
    exact hC
  · refine j_iload_n hF rfl 1 rfl dX10_byTurns_60 ?_
    refine j_iload hF 4 rfl dX10_byTurns_61 ?_
    refine j_ishr hF dX10_byTurns_63 ?_
    refine j_iconst (v := (1 : Int32)) hF (by decide) dX10_byTurns_64 ?_
    refine j_iand hF dX10_byTurns_65 ?_
    refine j_if_ne (tgt := 119) hF h (by decide) dX10_byTurns_66 (fun h => ?_) (fun h => ?_)
    · exact t10_byTurns_b119 hF h hC
    · refine j_aload_n hF rfl 0 rfl dX10_byTurns_69 ?_
      refine gf10_19 hF (by decide) (s_57 E _) rfl bw_4_154 dX10_byTurns_70 ?_
      refine j_iload_n hF rfl 1 rfl dX10_byTurns_73 ?_
      refine j_iconst (v := (1 : Int32)) hF (by decide) dX10_byTurns_74 ?_
      refine j_iload hF 4 rfl dX10_byTurns_75 ?_
      refine j_ishl hF dX10_byTurns_77 ?_
      refine j_ior hF dX10_byTurns_78 ?_
      refine j_iald hF (by decide) (s_69 E) h dX10_byTurns_79 (fun h => ?_)
      refine j_nmT h (fun x9 h => ?_)
      refine j_istore (lv' := [(6, .int x9), (0, .ref (eA E 57)), (2, .int v2), (3, .int v3), (4, .int v4), (5, .int v5)]) hF (by decide) rfl dX10_byTurns_80 ?_
      refine j_iload_n hF rfl 3 rfl dX10_byTurns_82 ?_
      refine j_if_eq (tgt := 103) hF h (by decide) dX10_byTurns_83 (fun h => ?_) (fun h => ?_)
      · refine j_iload hF 0 rfl dX10_byTurns_103 ?_
        refine j_iload hF 4 rfl dX10_byTurns_105 ?_
        refine j_icmp_ge (tgt := 115) hF h (by decide) dX10_byTurns_107 (fun h => ?_) (fun h => ?_)
        · refine j_iload hF 4 rfl dX10_byTurns_115 ?_
          refine j_sub (lv' := [(0, .ref (eA E 57)), (2, .int v2), (3, .int v3), (5, .int v5)]) hF [1, 2, 3, 5] rfl ?_
          exact t10_byTurns_b117 hF h hC
        · refine j_iload hF 0 rfl dX10_byTurns_110 ?_
          refine j_goto (tgt := 117) hF (by decide) dX10_byTurns_112 ?_
          refine j_sub (lv' := [(0, .ref (eA E 57)), (2, .int v2), (3, .int v3), (5, .int v5)]) hF [1, 2, 3, 5] rfl ?_
          exact t10_byTurns_b117 hF h hC
      · refine j_iload hF 0 rfl dX10_byTurns_86 ?_
        refine j_iload hF 4 rfl dX10_byTurns_88 ?_
        refine j_icmp_le (tgt := 98) hF h (by decide) dX10_byTurns_90 (fun h => ?_) (fun h => ?_)
        · refine j_iload hF 4 rfl dX10_byTurns_98 ?_
          refine j_goto (tgt := 117) hF (by decide) dX10_byTurns_100 ?_
          refine j_sub (lv' := [(0, .ref (eA E 57)), (2, .int v2), (3, .int v3), (5, .int v5)]) hF [1, 2, 3, 5] rfl ?_
          exact t10_byTurns_b117 hF h hC
        · refine j_iload hF 0 rfl dX10_byTurns_93 ?_
          refine j_goto (tgt := 117) hF (by decide) dX10_byTurns_95 ?_
          refine j_sub (lv' := [(0, .ref (eA E 57)), (2, .int v2), (3, .int v3), (5, .int v5)]) hF [1, 2, 3, 5] rfl ?_
          exact t10_byTurns_b117 hF h hC
set_option maxHeartbeats 1000000 in
theorem t10_byTurns_b125 {E : En} {X : Cx} {Q : State → Prop} {N : Nat} {v2 : Int32} {v4 : Int32} {S : Mem} {o : ((Int32 × Mem) ⊕ (Mem))} (hF : Fx E X cX10_byTurns RX10 7 (some .int) 1) (h : f10_byTurns_b125 N v2 v4 S = some o) (hC : Sum.elim (fun (s : (Int32 × Mem)) => J E X Q s.2 13 [(0, .ref (eA E 57)), (2, .int s.1)] []) (fun (x : (Mem)) => J E X Q x 139 [(0, .ref (eA E 57))] []) o) : J E X Q S 125 [(0, .ref (eA E 57)), (2, .int v2), (4, .int v4)] [] := by
  unfold f10_byTurns_b125 at h
  refine j_aload_n hF rfl 0 rfl dX10_byTurns_125 ?_
  refine gf10_19 hF (by decide) (s_57 E _) rfl bw_4_154 dX10_byTurns_126 ?_
  refine j_iload_n hF rfl 1 rfl dX10_byTurns_129 ?_
  refine j_iload hF 2 rfl dX10_byTurns_130 ?_
  refine j_iast hF (by decide) (s_69 E) h dX10_byTurns_132 (fun h => ?_)
  refine j_nmM h (fun S11 h => ?_)
  refine j_iinc (v := (v2 + (-1 : Int32))) (lv' := [(2, .int (v2 + (-1 : Int32))), (0, .ref (eA E 57)), (4, .int v4)]) (q := 1) hF rfl (congrArg (fun z => v2 + z) (by decide)) (by decide) rfl dX10_byTurns_133 ?_
  refine j_nmL h (fun x12 h => ?_)
  refine j_goto (tgt := 13) hF (by decide) dX10_byTurns_136 ?_
  obtain rfl := ret1 h
  refine j_sub (lv' := [(0, .ref (eA E 57)), (2, .int x12)]) hF [1, 0] rfl ?_
  exact hC
set_option maxHeartbeats 1000000 in
theorem t10_byTurns_b31 {E : En} {X : Cx} {Q : State → Prop} {N : Nat} {v2 : Int32} {w0 : Int32} {S : Mem} {o : ((Int32 × Mem) ⊕ (Mem))} (hF : Fx E X cX10_byTurns RX10 7 (some .int) 1) (h : f10_byTurns_b31 N v2 w0 S = some o) (hC : Sum.elim (fun (s : (Int32 × Mem)) => J E X Q s.2 13 [(0, .ref (eA E 57)), (2, .int s.1)] []) (fun (x : (Mem)) => J E X Q x 139 [(0, .ref (eA E 57))] []) o) : J E X Q S 31 [(0, .ref (eA E 57)), (2, .int v2)] [.int w0] := by
  unfold f10_byTurns_b31 at h
  refine j_istore_n (lv' := [(3, .int w0), (0, .ref (eA E 57)), (2, .int v2)]) hF rfl (by decide) rfl dX10_byTurns_31 ?_
  refine j_aload_n hF rfl 1 rfl dX10_byTurns_32 ?_
  refine j_iload_n hF rfl 2 rfl dX10_byTurns_33 ?_
  obtain ⟨r4, hr4, h⟩ := bnp_some h
  refine j_callV_i (As := [.int v2]) (st := []) hF rfl mv_10_trueSum (by decide) (s_57 E _) rfl bw_5_11 rfl (by decide) (Nat.le_of_ble_eq_true rfl) dX10_byTurns_34 (c10_trueSum hr4) ?_
  refine j_aload_n hF rfl 1 rfl dX10_byTurns_37 ?_
  refine gf10_5 hF (by decide) (s_57 E _) rfl bw_4_140 dX10_byTurns_38 ?_
  refine j_iconst (v := (0 : Int32)) hF (by decide) dX10_byTurns_41 ?_
  refine j_iald hF (by decide) (s_61 E) h dX10_byTurns_42 (fun h => ?_)
  refine j_nmT h (fun x5 h => ?_)
  refine j_irem hF h dX10_byTurns_43 (fun h => ?_)
  refine j_istore (lv' := [(4, .int (r4 - r4 / x5 * x5)), (3, .int w0), (0, .ref (eA E 57)), (2, .int v2)]) hF (by decide) rfl dX10_byTurns_44 ?_
  refine j_nmL h (fun x6 h => ?_)
  refine j_iconst (v := (0 : Int32)) hF (by decide) dX10_byTurns_46 ?_
  refine j_istore (lv' := [(5, .int (0 : Int32)), (4, .int x6), (3, .int w0), (0, .ref (eA E 57)), (2, .int v2)]) hF (by decide) rfl dX10_byTurns_47 ?_
  obtain ⟨z10, hz10, h⟩ := bnp_some h
  refine j_sub (lv' := [(0, .ref (eA E 57)), (2, .int v2), (3, .int w0), (4, .int x6), (5, .int (0 : Int32))]) hF [3, 4, 2, 1, 0] rfl ?_
  have hx : (fun (x : (Int32)) => J E X Q S 125 [(0, .ref (eA E 57)), (2, .int v2), (4, .int x)] []) z10 := by
    exact t10_byTurns_b125 hF h hC
  exact lp_rule (Jh := fun (s : (Int32 × Int32)) => J E X Q S 49 [(0, .ref (eA E 57)), (2, .int v2), (3, .int w0), (4, .int s.1), (5, .int s.2)] []) (C := fun (x : (Int32)) => J E X Q S 125 [(0, .ref (eA E 57)), (2, .int v2), (4, .int x)] []) (fun s o h hC => t10_byTurns_L49 hF h hC) N (x6, (0 : Int32)) z10 hz10 hx
set_option maxHeartbeats 1000000 in
theorem t10_byTurns_L13 {E : En} {X : Cx} {Q : State → Prop} {N : Nat} {v2 : Int32} {S : Mem} {o : ((Int32 × Mem) ⊕ (Mem))} (hF : Fx E X cX10_byTurns RX10 7 (some .int) 1) (h : f10_byTurns_L13 N v2 S = some o) (hC : Sum.elim (fun (s : (Int32 × Mem)) => J E X Q s.2 13 [(0, .ref (eA E 57)), (2, .int s.1)] []) (fun (x : (Mem)) => J E X Q x 139 [(0, .ref (eA E 57))] []) o) : J E X Q S 13 [(0, .ref (eA E 57)), (2, .int v2)] [] := by
  unfold f10_byTurns_L13 at h
  refine j_iload_n hF rfl 1 rfl dX10_byTurns_13 ?_
  refine j_if_lt (tgt := 139) hF h (by decide) dX10_byTurns_14 (fun h => ?_) (fun h => ?_)
  · obtain rfl := ret1 h
    refine j_sub (lv' := [(0, .ref (eA E 57))]) hF [0] rfl ?_
    exact hC
  · refine j_iload_n hF rfl 1 rfl dX10_byTurns_17 ?_
    obtain ⟨r3, hr3, h⟩ := bnp_some h
    refine j_callS_i (As := [.int v2]) (st := []) hF rfl mv_10_bitsIn bw_5_79 rfl (by decide) (Nat.le_of_ble_eq_true rfl) dX10_byTurns_18 (c10_bitsIn hr3) ?_
    refine j_iconst (v := (2 : Int32)) hF (by decide) dX10_byTurns_21 ?_
    refine j_irem hF h dX10_byTurns_22 (fun h => ?_)
    refine j_if_ne (tgt := 30) hF h (by decide) dX10_byTurns_23 (fun h => ?_) (fun h => ?_)
    · refine j_iconst (v := (0 : Int32)) hF (by decide) dX10_byTurns_30 ?_
      exact t10_byTurns_b31 hF h hC
    · refine j_iconst (v := (1 : Int32)) hF (by decide) dX10_byTurns_26 ?_
      refine j_goto (tgt := 31) hF (by decide) dX10_byTurns_27 ?_
      exact t10_byTurns_b31 hF h hC
set_option maxHeartbeats 1000000 in
theorem t10_byTurns_b139 {E : En} {X : Cx} {Q : State → Prop} {N : Nat} {S : Mem} {o : (Int32 × Mem)} (hF : Fx E X cX10_byTurns RX10 7 (some .int) 1) (h : f10_byTurns_b139 N S = some o) (hC : Q = RQ E X (some (.int o.1)) o.2) : J E X Q S 139 [(0, .ref (eA E 57))] [] := by
  unfold f10_byTurns_b139 at h
  refine j_aload_n hF rfl 0 rfl dX10_byTurns_139 ?_
  refine gf10_19 hF (by decide) (s_57 E _) rfl bw_4_154 dX10_byTurns_140 ?_
  refine j_iconst (v := (0 : Int32)) hF (by decide) dX10_byTurns_143 ?_
  refine j_iald hF (by decide) (s_69 E) h dX10_byTurns_144 (fun h => ?_)
  refine j_nmT h (fun x14 h => ?_)
  obtain rfl := ret1 h
  exact j_iret hF hC dX10_byTurns_145
set_option maxHeartbeats 1000000 in
theorem t10_byTurns {E : En} {X : Cx} {Q : State → Prop} {N : Nat} {S : Mem} {o : (Int32 × Mem)} (hF : Fx E X cX10_byTurns RX10 7 (some .int) 1) (h : f10_byTurns N S = some o) (hC : Q = RQ E X (some (.int o.1)) o.2) : J E X Q S 0 [(0, .ref (eA E 57))] [] := by
  unfold f10_byTurns at h
  refine j_iconst (v := (1 : Int32)) hF (by decide) dX10_byTurns_0 ?_
  refine j_aload_n hF rfl 0 rfl dX10_byTurns_1 ?_
  refine gf10_3 hF (by decide) (s_57 E _) rfl bw_4_138 dX10_byTurns_2 ?_
  refine j_iconst (v := (0 : Int32)) hF (by decide) dX10_byTurns_5 ?_
  refine j_iald hF (by decide) (s_59 E) h dX10_byTurns_6 (fun h => ?_)
  refine j_nmT h (fun x1 h => ?_)
  refine j_ishl hF dX10_byTurns_7 ?_
  refine j_iconst (v := (1 : Int32)) hF (by decide) dX10_byTurns_8 ?_
  refine j_isub hF dX10_byTurns_9 ?_
  refine j_istore_n (lv' := [(1, .int (((1 : Int32) <<< (x1 &&& 31)) - (1 : Int32))), (0, .ref (eA E 57))]) hF rfl (by decide) rfl dX10_byTurns_10 ?_
  refine j_nmL h (fun x2 h => ?_)
  refine j_iload_n hF rfl 0 rfl dX10_byTurns_11 ?_
  refine j_istore_n (lv' := [(2, .int x2), (1, .int x2), (0, .ref (eA E 57))]) hF rfl (by decide) rfl dX10_byTurns_12 ?_
  obtain ⟨z13, hz13, h⟩ := bnp_some h
  refine j_sub (lv' := [(0, .ref (eA E 57)), (2, .int x2)]) hF [2, 0] rfl ?_
  have hx : (fun (x : (Mem)) => J E X Q x 139 [(0, .ref (eA E 57))] []) z13 := by
    exact t10_byTurns_b139 hF h hC
  exact lp_rule (Jh := fun (s : (Int32 × Mem)) => J E X Q s.2 13 [(0, .ref (eA E 57)), (2, .int s.1)] []) (C := fun (x : (Mem)) => J E X Q x 139 [(0, .ref (eA E 57))] []) (fun s o h hC => t10_byTurns_L13 hF h hC) N (x2, S) z13 hz13 hx
set_option maxHeartbeats 1000000 in
theorem c10_byTurns {E : En} {N : Nat} {S So : Mem} {ro : Int32} (h : f10_byTurns N S = some (ro, So)) : CT E yX10_byTurns cX10_byTurns 7 (some .int) 1 [.ref (eA E 57)] S (some (.int ro)) So :=
  CT_of (by decide) (Nat.le_of_ble_eq_true rfl) (fun X hF => t10_byTurns hF h rfl)
def f10_mark_L33 (N : Nat) (v1 : Int32) (v2 : Int32) (v3 : Int32) (v4 : Int32) (v5 : Int32) (S : Mem) : Option ((Int32 × Int32) ⊕ (Int32)) :=
if (0 : Int32) < 0 ∨ 3 ≤ (0 : Int32).toNatClampNeg then none else
lt_ ((S 62).1 (0 : Int32).toNatClampNeg) fun x4 =>
if x4 ≤ v5 then
some (.inr (v4))
else
if ((3 : Int32) * v5) < 0 ∨ 108 ≤ ((3 : Int32) * v5).toNatClampNeg then none else
lt_ ((S 63).1 ((3 : Int32) * v5).toNatClampNeg) fun x5 =>
lt_ (v4 + ((x5 >>> (v2 &&& 31)) &&& (1 : Int32))) fun x6 =>
lt_ (v5 + (1 : Int32)) fun x7 =>
some (.inl (x6, x7))
def f10_mark_b68 (N : Nat) (v1 : Int32) (v2 : Int32) (v3 : Int32) (v4 : Int32) (S : Mem) : Option (Int32 × Mem) :=
if v1 = (0 : Int32) then
lt_ (wrL S 57 ((S 57).2 + (1 : Int64))) fun S9 =>
some ((v3, S9))
else
if v1 = (1 : Int32) then
lt_ (wrL S 57 ((S 57).2 + (11 : Int64))) fun S10 =>
if (3 : Int32) < 0 ∨ 8 ≤ (3 : Int32).toNatClampNeg then none else
lt_ ((S10 60).1 (3 : Int32).toNatClampNeg) fun x11 =>
some (((v3 + x11), S10))
else
if v1 = (2 : Int32) then
lt_ (wrL S 57 ((S 57).2 + (101 : Int64))) fun S12 =>
some ((((2 : Int32) * v3), S12))
else
if v1 = (3 : Int32) then
lt_ (wrL S 57 ((S 57).2 + (1011 : Int64))) fun S13 =>
if (3 : Int32) < 0 ∨ 8 ≤ (3 : Int32).toNatClampNeg then none else
lt_ ((S13 60).1 (3 : Int32).toNatClampNeg) fun x14 =>
if (0 : Int32) < 0 ∨ 3 ≤ (0 : Int32).toNatClampNeg then none else
lt_ ((S13 62).1 (0 : Int32).toNatClampNeg) fun x15 =>
some ((((v3 + x14) - x15), S13))
else
if v1 = (4 : Int32) then
lt_ (wrL S 57 ((S 57).2 + (10101 : Int64))) fun S16 =>
some (((((2 : Int32) * v3) + v2), S16))
else
lt_ (wrL S 57 ((S 57).2 + (100001 : Int64))) fun S17 =>
some (((v3 + v4), S17))
def f10_mark (N : Nat) (a1 : Int32) (a2 : Int32) (S : Mem) : Option (Int32 × Mem) :=
bnp (f10_in N a1 (0 : Int32) (5 : Int32) S) fun r1 =>
if r1 = 0 then
some (((-1000000 : Int32), S))
else
bnp (f10_isThing N a2 S) fun r2 =>
if r2 = 0 then
some (((-1000000 : Int32), S))
else
if a2 < 0 ∨ 8 ≤ a2.toNatClampNeg then none else
lt_ ((S 60).1 a2.toNatClampNeg) fun x3 =>
bnp (lp N (fun s => f10_mark_L33 N a1 a2 x3 s.1 s.2 S) ((0 : Int32), (0 : Int32))) fun z8 =>
f10_mark_b68 N a1 a2 x3 z8 S
set_option maxHeartbeats 1000000 in
theorem t10_mark_L33 {E : En} {X : Cx} {Q : State → Prop} {N : Nat} {v1 : Int32} {v2 : Int32} {v3 : Int32} {v4 : Int32} {v5 : Int32} {S : Mem} {o : ((Int32 × Int32) ⊕ (Int32))} (hF : Fx E X cX10_mark RX10 6 (some .int) 2) (h : f10_mark_L33 N v1 v2 v3 v4 v5 S = some o) (hC : Sum.elim (fun (s : (Int32 × Int32)) => J E X Q S 33 [(0, .ref (eA E 57)), (1, .int v1), (2, .int v2), (3, .int v3), (4, .int s.1), (5, .int s.2)] []) (fun (x : (Int32)) => J E X Q S 68 [(0, .ref (eA E 57)), (1, .int v1), (2, .int v2), (3, .int v3), (4, .int x)] []) o) : J E X Q S 33 [(0, .ref (eA E 57)), (1, .int v1), (2, .int v2), (3, .int v3), (4, .int v4), (5, .int v5)] [] := by
  unfold f10_mark_L33 at h
  refine j_iload hF 5 rfl dX10_mark_33 ?_
  refine j_aload_n hF rfl 0 rfl dX10_mark_35 ?_
  refine gf10_12 hF (by decide) (s_57 E _) rfl bw_4_147 dX10_mark_36 ?_
  refine j_iconst (v := (0 : Int32)) hF (by decide) dX10_mark_39 ?_
  refine j_iald hF (by decide) (s_62 E) h dX10_mark_40 (fun h => ?_)
  refine j_nmT h (fun x4 h => ?_)
  refine j_icmp_ge (tgt := 68) hF h (by decide) dX10_mark_41 (fun h => ?_) (fun h => ?_)
  · obtain rfl := ret1 h
    refine j_sub (lv' := [(0, .ref (eA E 57)), (1, .int v1), (2, .int v2), (3, .int v3), (4, .int v4)]) hF [0, 1, 2, 3, 4] rfl ?_
    exact hC
  · refine j_iload hF 4 rfl dX10_mark_44 ?_
    refine j_aload_n hF rfl 0 rfl dX10_mark_46 ?_
    refine gf10_13 hF (by decide) (s_57 E _) rfl bw_4_148 dX10_mark_47 ?_
    refine j_iconst (v := (3 : Int32)) hF (by decide) dX10_mark_50 ?_
    refine j_iload hF 5 rfl dX10_mark_51 ?_
    refine j_imul hF dX10_mark_53 ?_
    refine j_iald hF (by decide) (s_63 E) h dX10_mark_54 (fun h => ?_)
    refine j_nmT h (fun x5 h => ?_)
    refine j_iload_n hF rfl 2 rfl dX10_mark_55 ?_
    refine j_ishr hF dX10_mark_56 ?_
    refine j_iconst (v := (1 : Int32)) hF (by decide) dX10_mark_57 ?_
    refine j_iand hF dX10_mark_58 ?_
    refine j_iadd hF dX10_mark_59 ?_
    refine j_istore (lv' := [(4, .int (v4 + ((x5 >>> (v2 &&& 31)) &&& (1 : Int32)))), (0, .ref (eA E 57)), (1, .int v1), (2, .int v2), (3, .int v3), (5, .int v5)]) hF (by decide) rfl dX10_mark_60 ?_
    refine j_nmL h (fun x6 h => ?_)
    refine j_iinc (v := (v5 + (1 : Int32))) (lv' := [(5, .int (v5 + (1 : Int32))), (4, .int x6), (0, .ref (eA E 57)), (1, .int v1), (2, .int v2), (3, .int v3)]) (q := 5) hF rfl (congrArg (fun z => v5 + z) (by decide)) (by decide) rfl dX10_mark_62 ?_
    refine j_nmL h (fun x7 h => ?_)
    refine j_goto (tgt := 33) hF (by decide) dX10_mark_65 ?_
    obtain rfl := ret1 h
    refine j_sub (lv' := [(0, .ref (eA E 57)), (1, .int v1), (2, .int v2), (3, .int v3), (4, .int x6), (5, .int x7)]) hF [2, 3, 4, 5, 1, 0] rfl ?_
    exact hC
set_option maxHeartbeats 1000000 in
theorem t10_mark_b68 {E : En} {X : Cx} {Q : State → Prop} {N : Nat} {v1 : Int32} {v2 : Int32} {v3 : Int32} {v4 : Int32} {S : Mem} {o : (Int32 × Mem)} (hF : Fx E X cX10_mark RX10 6 (some .int) 2) (h : f10_mark_b68 N v1 v2 v3 v4 S = some o) (hC : Q = RQ E X (some (.int o.1)) o.2) : J E X Q S 68 [(0, .ref (eA E 57)), (1, .int v1), (2, .int v2), (3, .int v3), (4, .int v4)] [] := by
  unfold f10_mark_b68 at h
  refine j_iload_n hF rfl 1 rfl dX10_mark_68 ?_
  by_cases c0 : v1 = (0 : Int32)
  · rw [if_pos c0] at h
    refine j_tswIn (tgt := 104) hF c0 (by decide) (by decide) rfl (by decide) dX10_mark_69 ?_
    refine j_aload_n hF rfl 0 rfl dX10_mark_104 ?_
    refine j_dup hF rfl dX10_mark_105 ?_
    refine gf10_0 hF (by decide) (s_57 E _) rfl bw_4_135 dX10_mark_106 ?_
    refine j_lconst (v := (1 : Int64)) hF (by decide) dX10_mark_109 ?_
    refine j_ladd hF dX10_mark_110 ?_
    refine pf10_0 hF (by decide) (s_57 E _) (s_57 E _) (Nat.le_of_ble_eq_true rfl) bw_4_135 dX10_mark_111 ?_
    refine j_nmM h (fun S9 h => ?_)
    refine j_iload_n hF rfl 3 rfl dX10_mark_114 ?_
    obtain rfl := ret1 h
    exact j_iret hF hC dX10_mark_115
  · rw [if_neg c0] at h
    by_cases c1 : v1 = (1 : Int32)
    · rw [if_pos c1] at h
      refine j_tswIn (tgt := 116) hF c1 (by decide) (by decide) rfl (by decide) dX10_mark_69 ?_
      refine j_aload_n hF rfl 0 rfl dX10_mark_116 ?_
      refine j_dup hF rfl dX10_mark_117 ?_
      refine gf10_0 hF (by decide) (s_57 E _) rfl bw_4_135 dX10_mark_118 ?_
      refine j_ldc2 (v := (11 : Int64)) hF bw_5_137 dX10_mark_121 ?_
      refine j_ladd hF dX10_mark_124 ?_
      refine pf10_0 hF (by decide) (s_57 E _) (s_57 E _) (Nat.le_of_ble_eq_true rfl) bw_4_135 dX10_mark_125 ?_
      refine j_nmM h (fun S10 h => ?_)
      refine j_iload_n hF rfl 3 rfl dX10_mark_128 ?_
      refine j_aload_n hF rfl 0 rfl dX10_mark_129 ?_
      refine gf10_4 hF (by decide) (s_57 E _) rfl bw_4_139 dX10_mark_130 ?_
      refine j_iconst (v := (3 : Int32)) hF (by decide) dX10_mark_133 ?_
      refine j_iald hF (by decide) (s_60 E) h dX10_mark_134 (fun h => ?_)
      refine j_nmT h (fun x11 h => ?_)
      refine j_iadd hF dX10_mark_135 ?_
      obtain rfl := ret1 h
      exact j_iret hF hC dX10_mark_136
    · rw [if_neg c1] at h
      by_cases c2 : v1 = (2 : Int32)
      · rw [if_pos c2] at h
        refine j_tswIn (tgt := 137) hF c2 (by decide) (by decide) rfl (by decide) dX10_mark_69 ?_
        refine j_aload_n hF rfl 0 rfl dX10_mark_137 ?_
        refine j_dup hF rfl dX10_mark_138 ?_
        refine gf10_0 hF (by decide) (s_57 E _) rfl bw_4_135 dX10_mark_139 ?_
        refine j_ldc2 (v := (101 : Int64)) hF bw_5_138 dX10_mark_142 ?_
        refine j_ladd hF dX10_mark_145 ?_
        refine pf10_0 hF (by decide) (s_57 E _) (s_57 E _) (Nat.le_of_ble_eq_true rfl) bw_4_135 dX10_mark_146 ?_
        refine j_nmM h (fun S12 h => ?_)
        refine j_iconst (v := (2 : Int32)) hF (by decide) dX10_mark_149 ?_
        refine j_iload_n hF rfl 3 rfl dX10_mark_150 ?_
        refine j_imul hF dX10_mark_151 ?_
        obtain rfl := ret1 h
        exact j_iret hF hC dX10_mark_152
      · rw [if_neg c2] at h
        by_cases c3 : v1 = (3 : Int32)
        · rw [if_pos c3] at h
          refine j_tswIn (tgt := 153) hF c3 (by decide) (by decide) rfl (by decide) dX10_mark_69 ?_
          refine j_aload_n hF rfl 0 rfl dX10_mark_153 ?_
          refine j_dup hF rfl dX10_mark_154 ?_
          refine gf10_0 hF (by decide) (s_57 E _) rfl bw_4_135 dX10_mark_155 ?_
          refine j_ldc2 (v := (1011 : Int64)) hF bw_5_139 dX10_mark_158 ?_
          refine j_ladd hF dX10_mark_161 ?_
          refine pf10_0 hF (by decide) (s_57 E _) (s_57 E _) (Nat.le_of_ble_eq_true rfl) bw_4_135 dX10_mark_162 ?_
          refine j_nmM h (fun S13 h => ?_)
          refine j_iload_n hF rfl 3 rfl dX10_mark_165 ?_
          refine j_aload_n hF rfl 0 rfl dX10_mark_166 ?_
          refine gf10_4 hF (by decide) (s_57 E _) rfl bw_4_139 dX10_mark_167 ?_
          refine j_iconst (v := (3 : Int32)) hF (by decide) dX10_mark_170 ?_
          refine j_iald hF (by decide) (s_60 E) h dX10_mark_171 (fun h => ?_)
          refine j_nmT h (fun x14 h => ?_)
          refine j_iadd hF dX10_mark_172 ?_
          refine j_aload_n hF rfl 0 rfl dX10_mark_173 ?_
          refine gf10_12 hF (by decide) (s_57 E _) rfl bw_4_147 dX10_mark_174 ?_
          refine j_iconst (v := (0 : Int32)) hF (by decide) dX10_mark_177 ?_
          refine j_iald hF (by decide) (s_62 E) h dX10_mark_178 (fun h => ?_)
          refine j_nmT h (fun x15 h => ?_)
          refine j_isub hF dX10_mark_179 ?_
          obtain rfl := ret1 h
          exact j_iret hF hC dX10_mark_180
        · rw [if_neg c3] at h
          by_cases c4 : v1 = (4 : Int32)
          · rw [if_pos c4] at h
            refine j_tswIn (tgt := 181) hF c4 (by decide) (by decide) rfl (by decide) dX10_mark_69 ?_
            refine j_aload_n hF rfl 0 rfl dX10_mark_181 ?_
            refine j_dup hF rfl dX10_mark_182 ?_
            refine gf10_0 hF (by decide) (s_57 E _) rfl bw_4_135 dX10_mark_183 ?_
            refine j_ldc2 (v := (10101 : Int64)) hF bw_5_140 dX10_mark_186 ?_
            refine j_ladd hF dX10_mark_189 ?_
            refine pf10_0 hF (by decide) (s_57 E _) (s_57 E _) (Nat.le_of_ble_eq_true rfl) bw_4_135 dX10_mark_190 ?_
            refine j_nmM h (fun S16 h => ?_)
            refine j_iconst (v := (2 : Int32)) hF (by decide) dX10_mark_193 ?_
            refine j_iload_n hF rfl 3 rfl dX10_mark_194 ?_
            refine j_imul hF dX10_mark_195 ?_
            refine j_iload_n hF rfl 2 rfl dX10_mark_196 ?_
            refine j_iadd hF dX10_mark_197 ?_
            obtain rfl := ret1 h
            exact j_iret hF hC dX10_mark_198
          · rw [if_neg c4] at h
            have e0 : v1.toInt ≠ 0 := ne_toInt c0
            have e1 : v1.toInt ≠ 1 := ne_toInt c1
            have e2 : v1.toInt ≠ 2 := ne_toInt c2
            have e3 : v1.toInt ≠ 3 := ne_toInt c3
            have e4 : v1.toInt ≠ 4 := ne_toInt c4
            refine j_tswOut (tgt := 199) hF (by omega) (by decide) dX10_mark_69 ?_
            refine j_aload_n hF rfl 0 rfl dX10_mark_199 ?_
            refine j_dup hF rfl dX10_mark_200 ?_
            refine gf10_0 hF (by decide) (s_57 E _) rfl bw_4_135 dX10_mark_201 ?_
            refine j_ldc2 (v := (100001 : Int64)) hF bw_5_141 dX10_mark_204 ?_
            refine j_ladd hF dX10_mark_207 ?_
            refine pf10_0 hF (by decide) (s_57 E _) (s_57 E _) (Nat.le_of_ble_eq_true rfl) bw_4_135 dX10_mark_208 ?_
            refine j_nmM h (fun S17 h => ?_)
            refine j_iload_n hF rfl 3 rfl dX10_mark_211 ?_
            refine j_iload hF 4 rfl dX10_mark_212 ?_
            refine j_iadd hF dX10_mark_214 ?_
            obtain rfl := ret1 h
            exact j_iret hF hC dX10_mark_215
set_option maxHeartbeats 1000000 in
theorem t10_mark {E : En} {X : Cx} {Q : State → Prop} {N : Nat} {a1 : Int32} {a2 : Int32} {S : Mem} {o : (Int32 × Mem)} (hF : Fx E X cX10_mark RX10 6 (some .int) 2) (h : f10_mark N a1 a2 S = some o) (hC : Q = RQ E X (some (.int o.1)) o.2) : J E X Q S 0 [(0, .ref (eA E 57)), (1, .int a1), (2, .int a2)] [] := by
  unfold f10_mark at h
  refine j_iload_n hF rfl 1 rfl dX10_mark_0 ?_
  refine j_iconst (v := (0 : Int32)) hF (by decide) dX10_mark_1 ?_
  refine j_iconst (v := (5 : Int32)) hF (by decide) dX10_mark_2 ?_
  obtain ⟨r1, hr1, h⟩ := bnp_some h
  refine j_callS_i (As := [.int a1, .int (0 : Int32), .int (5 : Int32)]) (st := []) hF rfl mv_10_in bw_4_201 rfl (by decide) (Nat.le_of_ble_eq_true rfl) dX10_mark_3 (c10_in hr1) ?_
  refine j_if_eq (tgt := 17) hF h (by decide) dX10_mark_6 (fun h => ?_) (fun h => ?_)
  · refine j_ldc (v := (-1000000 : Int32)) hF bw_5_136 dX10_mark_17 ?_
    obtain rfl := ret1 h
    exact j_iret hF hC dX10_mark_19
  · refine j_aload_n hF rfl 0 rfl dX10_mark_9 ?_
    refine j_iload_n hF rfl 2 rfl dX10_mark_10 ?_
    obtain ⟨r2, hr2, h⟩ := bnp_some h
    refine j_callV_i (As := [.int a2]) (st := []) hF rfl mv_10_isThing (by decide) (s_57 E _) rfl bw_4_239 rfl (by decide) (Nat.le_of_ble_eq_true rfl) dX10_mark_11 (c10_isThing hr2) ?_
    refine j_if_ne (tgt := 20) hF h (by decide) dX10_mark_14 (fun h => ?_) (fun h => ?_)
    · refine j_aload_n hF rfl 0 rfl dX10_mark_20 ?_
      refine gf10_4 hF (by decide) (s_57 E _) rfl bw_4_139 dX10_mark_21 ?_
      refine j_iload_n hF rfl 2 rfl dX10_mark_24 ?_
      refine j_iald hF (by decide) (s_60 E) h dX10_mark_25 (fun h => ?_)
      refine j_nmT h (fun x3 h => ?_)
      refine j_istore_n (lv' := [(3, .int x3), (0, .ref (eA E 57)), (1, .int a1), (2, .int a2)]) hF rfl (by decide) rfl dX10_mark_26 ?_
      refine j_iconst (v := (0 : Int32)) hF (by decide) dX10_mark_27 ?_
      refine j_istore (lv' := [(4, .int (0 : Int32)), (3, .int x3), (0, .ref (eA E 57)), (1, .int a1), (2, .int a2)]) hF (by decide) rfl dX10_mark_28 ?_
      refine j_iconst (v := (0 : Int32)) hF (by decide) dX10_mark_30 ?_
      refine j_istore (lv' := [(5, .int (0 : Int32)), (4, .int (0 : Int32)), (3, .int x3), (0, .ref (eA E 57)), (1, .int a1), (2, .int a2)]) hF (by decide) rfl dX10_mark_31 ?_
      obtain ⟨z8, hz8, h⟩ := bnp_some h
      refine j_sub (lv' := [(0, .ref (eA E 57)), (1, .int a1), (2, .int a2), (3, .int x3), (4, .int (0 : Int32)), (5, .int (0 : Int32))]) hF [3, 4, 5, 2, 1, 0] rfl ?_
      have hx : (fun (x : (Int32)) => J E X Q S 68 [(0, .ref (eA E 57)), (1, .int a1), (2, .int a2), (3, .int x3), (4, .int x)] []) z8 := by
        exact t10_mark_b68 hF h hC
      exact lp_rule (Jh := fun (s : (Int32 × Int32)) => J E X Q S 33 [(0, .ref (eA E 57)), (1, .int a1), (2, .int a2), (3, .int x3), (4, .int s.1), (5, .int s.2)] []) (C := fun (x : (Int32)) => J E X Q S 68 [(0, .ref (eA E 57)), (1, .int a1), (2, .int a2), (3, .int x3), (4, .int x)] []) (fun s o h hC => t10_mark_L33 hF h hC) N ((0 : Int32), (0 : Int32)) z8 hz8 hx
    · refine j_ldc (v := (-1000000 : Int32)) hF bw_5_136 dX10_mark_17 ?_
      obtain rfl := ret1 h
      exact j_iret hF hC dX10_mark_19
set_option maxHeartbeats 1000000 in
theorem c10_mark {E : En} {N : Nat} {a1 : Int32} {a2 : Int32} {S So : Mem} {ro : Int32} (h : f10_mark N a1 a2 S = some (ro, So)) : CT E yX10_mark cX10_mark 6 (some .int) 2 [.ref (eA E 57), .int a1, .int a2] S (some (.int ro)) So :=
  CT_of (by decide) (Nat.le_of_ble_eq_true rfl) (fun X hF => t10_mark hF h rfl)
