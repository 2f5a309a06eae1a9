def f10_market_L45 (N : Nat) (v1 : Int32) (S : Mem) : Option ((Int32 × Mem) ⊕ (Int32 × Mem)) :=
if ((S 57).1 10) = (-9 : Int32) then
if ((S 57).1 8) = (3 : Int32) then
some (.inr (v1, S))
else
bnd (f10_readItem N S) fun r9 S10 =>
lt_ (v1 + (1 : Int32)) fun x11 =>
some (.inl (x11, S10))
else
some (.inr (v1, S))
def f10_market_L115 (N : Nat) (v1 : Int32) (v2 : Int32) (S : Mem) : Option ((Int32 × Mem) ⊕ (Mem)) :=
if (4 : Int32) ≤ v2 then
some (.inr (S))
else
if ((4 : Int32) + v2) < 0 ∨ 8 ≤ ((4 : Int32) + v2).toNatClampNeg then none else
lt_ ((S 60).1 ((4 : Int32) + v2).toNatClampNeg) fun x17 =>
if v2 < 0 ∨ 8 ≤ v2.toNatClampNeg then none else
lt_ (wr S 60 v2.toNatClampNeg x17) fun S18 =>
lt_ (v2 + (1 : Int32)) fun x19 =>
some (.inl (x19, S18))
def f10_market_b140 (N : Nat) (v1 : Int32) (S : Mem) : Option (Int32 × Mem) :=
if (0 : Int32) < 0 ∨ 3 ≤ (0 : Int32).toNatClampNeg then none else
lt_ (wr S 62 (0 : Int32).toNatClampNeg (0 : Int32)) fun S21 =>
if (0 : Int32) < 0 ∨ 2 ≤ (0 : Int32).toNatClampNeg then none else
lt_ (wr S21 64 (0 : Int32).toNatClampNeg (vp_nar .boolean (0 : Int32))) fun S22 =>
if (1 : Int32) < 0 ∨ 2 ≤ (1 : Int32).toNatClampNeg then none else
lt_ (wr S22 64 (1 : Int32).toNatClampNeg (vp_nar .boolean (0 : Int32))) fun S23 =>
lt_ (wr S23 57 2 (0 : Int32)) fun S24 =>
some ((v1, S24))
def f10_market_b72 (N : Nat) (v1 : Int32) (S : Mem) : Option (Int32 × Mem) :=
if ((S 57).1 10) = (-9 : Int32) then
if (1 : Int32) < 0 ∨ 2 ≤ (1 : Int32).toNatClampNeg then none else
lt_ ((S 59).1 (1 : Int32).toNatClampNeg) fun x13 =>
if (0 : Int32) < 0 ∨ 2 ≤ (0 : Int32).toNatClampNeg then none else
lt_ (wr S 59 (0 : Int32).toNatClampNeg x13) fun S14 =>
if (1 : Int32) < 0 ∨ 2 ≤ (1 : Int32).toNatClampNeg then none else
lt_ ((S14 61).1 (1 : Int32).toNatClampNeg) fun x15 =>
if (0 : Int32) < 0 ∨ 2 ≤ (0 : Int32).toNatClampNeg then none else
lt_ (wr S14 61 (0 : Int32).toNatClampNeg x15) fun S16 =>
bnp (lp N (fun s => f10_market_L115 N v1 s.1 s.2) ((0 : Int32), S16)) fun z20 =>
f10_market_b140 N v1 z20
else
some ((((-10 : Int32) - ((S 57).1 10)), S))
def f10_market (N : Nat) (S : Mem) : Option (Int32 × Mem) :=
lt_ (wr S 57 6 (0 : Int32)) fun S1 =>
lt_ (wr S1 57 10 (-9 : Int32)) fun S2 =>
lt_ (wr S2 57 11 (0 : Int32)) fun S3 =>
if (1 : Int32) < 0 ∨ 2 ≤ (1 : Int32).toNatClampNeg then none else
lt_ (wr S3 59 (1 : Int32).toNatClampNeg (0 : Int32)) fun S4 =>
if (7 : Int32) < 0 ∨ 8 ≤ (7 : Int32).toNatClampNeg then none else
lt_ (wr S4 60 (7 : Int32).toNatClampNeg (0 : Int32)) fun S5 =>
if (1 : Int32) < 0 ∨ 2 ≤ (1 : Int32).toNatClampNeg then none else
lt_ (wr S5 61 (1 : Int32).toNatClampNeg (10 : Int32)) fun S6 =>
bnd (f10_nextToken N S6) fun r7 S8 =>
bnp (lp N (fun s => f10_market_L45 N s.1 s.2) ((0 : Int32), S8)) fun z12 =>
f10_market_b72 N z12.1 z12.2
set_option maxHeartbeats 1000000 in
theorem t10_market_L45 {E : En} {X : Cx} {Q : State → Prop} {N : Nat} {v1 : Int32} {S : Mem} {o : ((Int32 × Mem) ⊕ (Int32 × Mem))} (hF : Fx E X cX10_market RX10 3 (some .int) 5) (h : f10_market_L45 N v1 S = some o) (hC : Sum.elim (fun (s : (Int32 × Mem)) => J E X Q s.2 45 [(0, .ref (eA E 57)), (1, .int s.1)] []) (fun (x : (Int32 × Mem)) => J E X Q x.2 72 [(0, .ref (eA E 57)), (1, .int x.1)] []) o) : J E X Q S 45 [(0, .ref (eA E 57)), (1, .int v1)] [] := by
  unfold f10_market_L45 at h
  refine j_aload_n hF rfl 0 rfl dX10_market_45 ?_
  refine gf10_10 hF (by decide) (s_57 E _) rfl bw_4_145 dX10_market_46 ?_
  refine j_bipush (v := (-9 : Int32)) hF (by decide) dX10_market_49 ?_
  refine j_icmp_ne (tgt := 72) hF h (by decide) dX10_market_51 (fun h => ?_) (fun h => ?_)
  · obtain rfl := ret1 h
    exact hC
  · refine j_aload_n hF rfl 0 rfl dX10_market_54 ?_
    refine gf10_8 hF (by decide) (s_57 E _) rfl bw_4_143 dX10_market_55 ?_
    refine j_iconst (v := (3 : Int32)) hF (by decide) dX10_market_58 ?_
    refine j_icmp_eq (tgt := 72) hF h (by decide) dX10_market_59 (fun h => ?_) (fun h => ?_)
    · obtain rfl := ret1 h
      exact hC
    · refine j_aload_n hF rfl 0 rfl dX10_market_62 ?_
      obtain ⟨r9, S10, hr9, h⟩ := bnd_some h
      refine j_callV_v (As := []) (st := []) hF rfl mv_10_readItem (by decide) (s_57 E _) rfl bw_4_223 rfl (by decide) (Nat.le_of_ble_eq_true rfl) dX10_market_63 (c10_readItem hr9) ?_
      refine j_iinc (v := (v1 + (1 : Int32))) (lv' := [(1, .int (v1 + (1 : Int32))), (0, .ref (eA E 57))]) (q := 1) hF rfl (congrArg (fun z => v1 + z) (by decide)) (by decide) rfl dX10_market_66 ?_
      refine j_nmL h (fun x11 h => ?_)
      refine j_goto (tgt := 45) hF (by decide) dX10_market_69 ?_
      obtain rfl := ret1 h
      refine j_sub (lv' := [(0, .ref (eA E 57)), (1, .int x11)]) hF [1, 0] rfl ?_
      exact hC
set_option maxHeartbeats 1000000 in
theorem t10_market_L115 {E : En} {X : Cx} {Q : State → Prop} {N : Nat} {v1 : Int32} {v2 : Int32} {S : Mem} {o : ((Int32 × Mem) ⊕ (Mem))} (hF : Fx E X cX10_market RX10 3 (some .int) 5) (h : f10_market_L115 N v1 v2 S = some o) (hC : Sum.elim (fun (s : (Int32 × Mem)) => J E X Q s.2 115 [(0, .ref (eA E 57)), (1, .int v1), (2, .int s.1)] []) (fun (x : (Mem)) => J E X Q x 140 [(0, .ref (eA E 57)), (1, .int v1)] []) o) : J E X Q S 115 [(0, .ref (eA E 57)), (1, .int v1), (2, .int v2)] [] := by
  unfold f10_market_L115 at h
  refine j_iload_n hF rfl 2 rfl dX10_market_115 ?_
  refine j_iconst (v := (4 : Int32)) hF (by decide) dX10_market_116 ?_
  refine j_icmp_ge (tgt := 140) hF h (by decide) dX10_market_117 (fun h => ?_) (fun h => ?_)
  · obtain rfl := ret1 h
    refine j_sub (lv' := [(0, .ref (eA E 57)), (1, .int v1)]) hF [0, 1] rfl ?_
    exact hC
  · refine j_aload_n hF rfl 0 rfl dX10_market_120 ?_
    refine gf10_4 hF (by decide) (s_57 E _) rfl bw_4_139 dX10_market_121 ?_
    refine j_iload_n hF rfl 2 rfl dX10_market_124 ?_
    refine j_aload_n hF rfl 0 rfl dX10_market_125 ?_
    refine gf10_4 hF (by decide) (s_57 E _) rfl bw_4_139 dX10_market_126 ?_
    refine j_iconst (v := (4 : Int32)) hF (by decide) dX10_market_129 ?_
    refine j_iload_n hF rfl 2 rfl dX10_market_130 ?_
    refine j_iadd hF dX10_market_131 ?_
    refine j_iald hF (by decide) (s_60 E) h dX10_market_132 (fun h => ?_)
    refine j_nmT h (fun x17 h => ?_)
    refine j_iast hF (by decide) (s_60 E) h dX10_market_133 (fun h => ?_)
    refine j_nmM h (fun S18 h => ?_)
    refine j_iinc (v := (v2 + (1 : Int32))) (lv' := [(2, .int (v2 + (1 : Int32))), (0, .ref (eA E 57)), (1, .int v1)]) (q := 2) hF rfl (congrArg (fun z => v2 + z) (by decide)) (by decide) rfl dX10_market_134 ?_
    refine j_nmL h (fun x19 h => ?_)
    refine j_goto (tgt := 115) hF (by decide) dX10_market_137 ?_
    obtain rfl := ret1 h
    refine j_sub (lv' := [(0, .ref (eA E 57)), (1, .int v1), (2, .int x19)]) hF [1, 2, 0] rfl ?_
    exact hC
set_option maxHeartbeats 1000000 in
theorem t10_market_b140 {E : En} {X : Cx} {Q : State → Prop} {N : Nat} {v1 : Int32} {S : Mem} {o : (Int32 × Mem)} (hF : Fx E X cX10_market RX10 3 (some .int) 5) (h : f10_market_b140 N v1 S = some o) (hC : Q = RQ E X (some (.int o.1)) o.2) : J E X Q S 140 [(0, .ref (eA E 57)), (1, .int v1)] [] := by
  unfold f10_market_b140 at h
  refine j_aload_n hF rfl 0 rfl dX10_market_140 ?_
  refine gf10_12 hF (by decide) (s_57 E _) rfl bw_4_147 dX10_market_141 ?_
  refine j_iconst (v := (0 : Int32)) hF (by decide) dX10_market_144 ?_
  refine j_iconst (v := (0 : Int32)) hF (by decide) dX10_market_145 ?_
  refine j_iast hF (by decide) (s_62 E) h dX10_market_146 (fun h => ?_)
  refine j_nmM h (fun S21 h => ?_)
  refine j_aload_n hF rfl 0 rfl dX10_market_147 ?_
  refine gf10_14 hF (by decide) (s_57 E _) rfl bw_4_149 dX10_market_148 ?_
  refine j_iconst (v := (0 : Int32)) hF (by decide) dX10_market_151 ?_
  refine j_iconst (v := (0 : Int32)) hF (by decide) dX10_market_152 ?_
  refine j_zast hF (by decide) (s_64 E) h dX10_market_153 (fun h => ?_)
  refine j_nmM h (fun S22 h => ?_)
  refine j_aload_n hF rfl 0 rfl dX10_market_154 ?_
  refine gf10_14 hF (by decide) (s_57 E _) rfl bw_4_149 dX10_market_155 ?_
  refine j_iconst (v := (1 : Int32)) hF (by decide) dX10_market_158 ?_
  refine j_iconst (v := (0 : Int32)) hF (by decide) dX10_market_159 ?_
  refine j_zast hF (by decide) (s_64 E) h dX10_market_160 (fun h => ?_)
  refine j_nmM h (fun S23 h => ?_)
  refine j_aload_n hF rfl 0 rfl dX10_market_161 ?_
  refine j_iconst (v := (0 : Int32)) hF (by decide) dX10_market_162 ?_
  refine pf10_2 hF (by decide) (s_57 E _) (s_57 E _) (Nat.le_of_ble_eq_true rfl) bw_4_137 dX10_market_163 ?_
  refine j_nmM h (fun S24 h => ?_)
  refine j_iload_n hF rfl 1 rfl dX10_market_166 ?_
  obtain rfl := ret1 h
  exact j_iret hF hC dX10_market_167
set_option maxHeartbeats 1000000 in
theorem t10_market_b72 {E : En} {X : Cx} {Q : State → Prop} {N : Nat} {v1 : Int32} {S : Mem} {o : (Int32 × Mem)} (hF : Fx E X cX10_market RX10 3 (some .int) 5) (h : f10_market_b72 N v1 S = some o) (hC : Q = RQ E X (some (.int o.1)) o.2) : J E X Q S 72 [(0, .ref (eA E 57)), (1, .int v1)] [] := by
  unfold f10_market_b72 at h
  refine j_aload_n hF rfl 0 rfl dX10_market_72 ?_
  refine gf10_10 hF (by decide) (s_57 E _) rfl bw_4_145 dX10_market_73 ?_
  refine j_bipush (v := (-9 : Int32)) hF (by decide) dX10_market_76 ?_
  refine j_icmp_eq (tgt := 89) hF h (by decide) dX10_market_78 (fun h => ?_) (fun h => ?_)
  · refine j_aload_n hF rfl 0 rfl dX10_market_89 ?_
    refine gf10_3 hF (by decide) (s_57 E _) rfl bw_4_138 dX10_market_90 ?_
    refine j_iconst (v := (0 : Int32)) hF (by decide) dX10_market_93 ?_
    refine j_aload_n hF rfl 0 rfl dX10_market_94 ?_
    refine gf10_3 hF (by decide) (s_57 E _) rfl bw_4_138 dX10_market_95 ?_
    refine j_iconst (v := (1 : Int32)) hF (by decide) dX10_market_98 ?_
    refine j_iald hF (by decide) (s_59 E) h dX10_market_99 (fun h => ?_)
    refine j_nmT h (fun x13 h => ?_)
    refine j_iast hF (by decide) (s_59 E) h dX10_market_100 (fun h => ?_)
    refine j_nmM h (fun S14 h => ?_)
    refine j_aload_n hF rfl 0 rfl dX10_market_101 ?_
    refine gf10_5 hF (by decide) (s_57 E _) rfl bw_4_140 dX10_market_102 ?_
    refine j_iconst (v := (0 : Int32)) hF (by decide) dX10_market_105 ?_
    refine j_aload_n hF rfl 0 rfl dX10_market_106 ?_
    refine gf10_5 hF (by decide) (s_57 E _) rfl bw_4_140 dX10_market_107 ?_
    refine j_iconst (v := (1 : Int32)) hF (by decide) dX10_market_110 ?_
    refine j_iald hF (by decide) (s_61 E) h dX10_market_111 (fun h => ?_)
    refine j_nmT h (fun x15 h => ?_)
    refine j_iast hF (by decide) (s_61 E) h dX10_market_112 (fun h => ?_)
    refine j_nmM h (fun S16 h => ?_)
    refine j_iconst (v := (0 : Int32)) hF (by decide) dX10_market_113 ?_
    refine j_istore_n (lv' := [(2, .int (0 : Int32)), (0, .ref (eA E 57)), (1, .int v1)]) hF rfl (by decide) rfl dX10_market_114 ?_
    obtain ⟨z20, hz20, h⟩ := bnp_some h
    refine j_sub (lv' := [(0, .ref (eA E 57)), (1, .int v1), (2, .int (0 : Int32))]) hF [1, 2, 0] rfl ?_
    have hx : (fun (x : (Mem)) => J E X Q x 140 [(0, .ref (eA E 57)), (1, .int v1)] []) z20 := by
      exact t10_market_b140 hF h hC
    exact lp_rule (Jh := fun (s : (Int32 × Mem)) => J E X Q s.2 115 [(0, .ref (eA E 57)), (1, .int v1), (2, .int s.1)] []) (C := fun (x : (Mem)) => J E X Q x 140 [(0, .ref (eA E 57)), (1, .int v1)] []) (fun s o h hC => t10_market_L115 hF h hC) N ((0 : Int32), S16) z20 hz20 hx
  · refine j_bipush (v := (-10 : Int32)) hF (by decide) dX10_market_81 ?_
    refine j_aload_n hF rfl 0 rfl dX10_market_83 ?_
    refine gf10_10 hF (by decide) (s_57 E _) rfl bw_4_145 dX10_market_84 ?_
    refine j_isub hF dX10_market_87 ?_
    obtain rfl := ret1 h
    exact j_iret hF hC dX10_market_88
set_option maxHeartbeats 1000000 in
theorem t10_market {E : En} {X : Cx} {Q : State → Prop} {N : Nat} {S : Mem} {o : (Int32 × Mem)} (hF : Fx E X cX10_market RX10 3 (some .int) 5) (h : f10_market N S = some o) (hC : Q = RQ E X (some (.int o.1)) o.2) : J E X Q S 0 [(0, .ref (eA E 57))] [] := by
  unfold f10_market at h
  refine j_aload_n hF rfl 0 rfl dX10_market_0 ?_
  refine j_iconst (v := (0 : Int32)) hF (by decide) dX10_market_1 ?_
  refine pf10_6 hF (by decide) (s_57 E _) (s_57 E _) (Nat.le_of_ble_eq_true rfl) bw_4_141 dX10_market_2 ?_
  refine j_nmM h (fun S1 h => ?_)
  refine j_aload_n hF rfl 0 rfl dX10_market_5 ?_
  refine j_bipush (v := (-9 : Int32)) hF (by decide) dX10_market_6 ?_
  refine pf10_10 hF (by decide) (s_57 E _) (s_57 E _) (Nat.le_of_ble_eq_true rfl) bw_4_145 dX10_market_8 ?_
  refine j_nmM h (fun S2 h => ?_)
  refine j_aload_n hF rfl 0 rfl dX10_market_11 ?_
  refine j_iconst (v := (0 : Int32)) hF (by decide) dX10_market_12 ?_
  refine pf10_11 hF (by decide) (s_57 E _) (s_57 E _) (Nat.le_of_ble_eq_true rfl) bw_4_146 dX10_market_13 ?_
  refine j_nmM h (fun S3 h => ?_)
  refine j_aload_n hF rfl 0 rfl dX10_market_16 ?_
  refine gf10_3 hF (by decide) (s_57 E _) rfl bw_4_138 dX10_market_17 ?_
  refine j_iconst (v := (1 : Int32)) hF (by decide) dX10_market_20 ?_
  refine j_iconst (v := (0 : Int32)) hF (by decide) dX10_market_21 ?_
  refine j_iast hF (by decide) (s_59 E) h dX10_market_22 (fun h => ?_)
  refine j_nmM h (fun S4 h => ?_)
  refine j_aload_n hF rfl 0 rfl dX10_market_23 ?_
  refine gf10_4 hF (by decide) (s_57 E _) rfl bw_4_139 dX10_market_24 ?_
  refine j_bipush (v := (7 : Int32)) hF (by decide) dX10_market_27 ?_
  refine j_iconst (v := (0 : Int32)) hF (by decide) dX10_market_29 ?_
  refine j_iast hF (by decide) (s_60 E) h dX10_market_30 (fun h => ?_)
  refine j_nmM h (fun S5 h => ?_)
  refine j_aload_n hF rfl 0 rfl dX10_market_31 ?_
  refine gf10_5 hF (by decide) (s_57 E _) rfl bw_4_140 dX10_market_32 ?_
  refine j_iconst (v := (1 : Int32)) hF (by decide) dX10_market_35 ?_
  refine j_bipush (v := (10 : Int32)) hF (by decide) dX10_market_36 ?_
  refine j_iast hF (by decide) (s_61 E) h dX10_market_38 (fun h => ?_)
  refine j_nmM h (fun S6 h => ?_)
  refine j_iconst (v := (0 : Int32)) hF (by decide) dX10_market_39 ?_
  refine j_istore_n (lv' := [(1, .int (0 : Int32)), (0, .ref (eA E 57))]) hF rfl (by decide) rfl dX10_market_40 ?_
  refine j_aload_n hF rfl 1 rfl dX10_market_41 ?_
  obtain ⟨r7, S8, hr7, h⟩ := bnd_some h
  refine j_callV_v (As := []) (st := []) hF rfl mv_10_nextToken (by decide) (s_57 E _) rfl bw_4_213 rfl (by decide) (Nat.le_of_ble_eq_true rfl) dX10_market_42 (c10_nextToken hr7) ?_
  obtain ⟨z12, hz12, h⟩ := bnp_some h
  refine j_sub (lv' := [(0, .ref (eA E 57)), (1, .int (0 : Int32))]) hF [1, 0] rfl ?_
  have hx : (fun (x : (Int32 × Mem)) => J E X Q x.2 72 [(0, .ref (eA E 57)), (1, .int x.1)] []) z12 := by
    exact t10_market_b72 hF h hC
  exact lp_rule (Jh := fun (s : (Int32 × Mem)) => J E X Q s.2 45 [(0, .ref (eA E 57)), (1, .int s.1)] []) (C := fun (x : (Int32 × Mem)) => J E X Q x.2 72 [(0, .ref (eA E 57)), (1, .int x.1)] []) (fun s o h hC => t10_market_L45 hF h hC) N ((0 : Int32), S8) z12 hz12 hx
set_option maxHeartbeats 1000000 in
theorem c10_market {E : En} {N : Nat} {S So : Mem} {ro : Int32} (h : f10_market N S = some (ro, So)) : CT E yX10_market cX10_market 3 (some .int) 5 [.ref (eA E 57)] S (some (.int ro)) So :=
  CT_of (by decide) (Nat.le_of_ble_eq_true rfl) (fun X hF => t10_market hF h rfl)
def f10_isThing (N : Nat) (a1 : Int32) (S : Mem) : Option Int32 :=
if (0 : Int32) < 0 ∨ 2 ≤ (0 : Int32).toNatClampNeg then none else
lt_ ((S 59).1 (0 : Int32).toNatClampNeg) fun x1 =>
bnp (f10_in N a1 (0 : Int32) (x1 - (1 : Int32)) S) fun r2 =>
if r2 = 0 ∨ r2 = 1 then
some (r2) else none
set_option maxHeartbeats 1000000 in
theorem t10_isThing {E : En} {X : Cx} {Q : State → Prop} {N : Nat} {a1 : Int32} {S : Mem} {o : Int32} (hF : Fx E X cX10_isThing RX10 2 (some .boolean) 1) (h : f10_isThing N a1 S = some o) (hC : Q = RQ E X (some (.int o)) S) : J E X Q S 0 [(0, .ref (eA E 57)), (1, .int a1)] [] := by
  unfold f10_isThing at h
  refine j_iload_n hF rfl 1 rfl dX10_isThing_0 ?_
  refine j_iconst (v := (0 : Int32)) hF (by decide) dX10_isThing_1 ?_
  refine j_aload_n hF rfl 0 rfl dX10_isThing_2 ?_
  refine gf10_3 hF (by decide) (s_57 E _) rfl bw_4_138 dX10_isThing_3 ?_
  refine j_iconst (v := (0 : Int32)) hF (by decide) dX10_isThing_6 ?_
  refine j_iald hF (by decide) (s_59 E) h dX10_isThing_7 (fun h => ?_)
  refine j_nmT h (fun x1 h => ?_)
  refine j_iconst (v := (1 : Int32)) hF (by decide) dX10_isThing_8 ?_
  refine j_isub hF dX10_isThing_9 ?_
  obtain ⟨r2, hr2, h⟩ := bnp_some h
  refine j_callS_i (As := [.int a1, .int (0 : Int32), .int (x1 - (1 : Int32))]) (st := []) hF rfl mv_10_in bw_4_201 rfl (by decide) (Nat.le_of_ble_eq_true rfl) dX10_isThing_10 (c10_in hr2) ?_
  obtain ⟨hz, h⟩ := zg_some h
  obtain rfl := ret1 h
  exact j_ret_boolean hF (zg_nar hz) hC dX10_isThing_13
set_option maxHeartbeats 1000000 in
theorem c10_isThing {E : En} {N : Nat} {a1 : Int32} {S : Mem} {ro : Int32} (h : f10_isThing N a1 S = some ro) : CT E yX10_isThing cX10_isThing 2 (some .boolean) 1 [.ref (eA E 57), .int a1] S (some (.int ro)) S :=
  CT_of (by decide) (Nat.le_of_ble_eq_true rfl) (fun X hF => t10_isThing hF h rfl)
def f10_thing_b13 (N : Nat) (v1 : Int32) (S : Mem) : Option Int32 :=
if v1 < 0 ∨ 8 ≤ v1.toNatClampNeg then none else
lt_ ((S 60).1 v1.toNatClampNeg) fun x2 =>
some (x2)
def f10_thing (N : Nat) (a1 : Int32) (S : Mem) : Option Int32 :=
bnp (f10_isThing N a1 S) fun r1 =>
if r1 = 0 then
if a1 = (3 : Int32) then
f10_thing_b13 N a1 S
else
some ((-1 : Int32))
else
f10_thing_b13 N a1 S
set_option maxHeartbeats 1000000 in
theorem t10_thing_b13 {E : En} {X : Cx} {Q : State → Prop} {N : Nat} {v1 : Int32} {S : Mem} {o : Int32} (hF : Fx E X cX10_thing RX10 2 (some .int) 2) (h : f10_thing_b13 N v1 S = some o) (hC : Q = RQ E X (some (.int o)) S) : J E X Q S 13 [(0, .ref (eA E 57)), (1, .int v1)] [] := by
  unfold f10_thing_b13 at h
  refine j_aload_n hF rfl 0 rfl dX10_thing_13 ?_
  refine gf10_4 hF (by decide) (s_57 E _) rfl bw_4_139 dX10_thing_14 ?_
  refine j_iload_n hF rfl 1 rfl dX10_thing_17 ?_
  refine j_iald hF (by decide) (s_60 E) h dX10_thing_18 (fun h => ?_)
  refine j_nmT h (fun x2 h => ?_)
  refine j_goto (tgt := 23) hF (by decide) dX10_thing_19 ?_
  obtain rfl := ret1 h
  exact j_iret hF hC dX10_thing_23
set_option maxHeartbeats 1000000 in
theorem t10_thing {E : En} {X : Cx} {Q : State → Prop} {N : Nat} {a1 : Int32} {S : Mem} {o : Int32} (hF : Fx E X cX10_thing RX10 2 (some .int) 2) (h : f10_thing N a1 S = some o) (hC : Q = RQ E X (some (.int o)) S) : J E X Q S 0 [(0, .ref (eA E 57)), (1, .int a1)] [] := by
  unfold f10_thing at h
  refine j_aload_n hF rfl 0 rfl dX10_thing_0 ?_
  refine j_iload_n hF rfl 1 rfl dX10_thing_1 ?_
  obtain ⟨r1, hr1, h⟩ := bnp_some h
  refine j_callV_i (As := [.int a1]) (st := []) hF rfl mv_10_isThing (by decide) (s_57 E _) rfl bw_4_239 rfl (by decide) (Nat.le_of_ble_eq_true rfl) dX10_thing_2 (c10_isThing hr1) ?_
  refine j_if_ne (tgt := 13) hF h (by decide) dX10_thing_5 (fun h => ?_) (fun h => ?_)
  · exact t10_thing_b13 hF h hC
  · refine j_iload_n hF rfl 1 rfl dX10_thing_8 ?_
    refine j_iconst (v := (3 : Int32)) hF (by decide) dX10_thing_9 ?_
    refine j_icmp_ne (tgt := 22) hF h (by decide) dX10_thing_10 (fun h => ?_) (fun h => ?_)
    · refine j_iconst (v := (-1 : Int32)) hF (by decide) dX10_thing_22 ?_
      obtain rfl := ret1 h
      exact j_iret hF hC dX10_thing_23
    · exact t10_thing_b13 hF h hC
set_option maxHeartbeats 1000000 in
theorem c10_thing {E : En} {N : Nat} {a1 : Int32} {S : Mem} {ro : Int32} (h : f10_thing N a1 S = some ro) : CT E yX10_thing cX10_thing 2 (some .int) 2 [.ref (eA E 57), .int a1] S (some (.int ro)) S :=
  CT_of (by decide) (Nat.le_of_ble_eq_true rfl) (fun X hF => t10_thing hF h rfl)
def f10_isSet (N : Nat) (a1 : Int32) (S : Mem) : Option Int32 :=
if (0 : Int32) < 0 ∨ 2 ≤ (0 : Int32).toNatClampNeg then none else
lt_ ((S 59).1 (0 : Int32).toNatClampNeg) fun x1 =>
bnp (f10_in N a1 (0 : Int32) (((1 : Int32) <<< (x1 &&& 31)) - (1 : Int32)) S) fun r2 =>
if r2 = 0 ∨ r2 = 1 then
some (r2) else none
set_option maxHeartbeats 1000000 in
theorem t10_isSet {E : En} {X : Cx} {Q : State → Prop} {N : Nat} {a1 : Int32} {S : Mem} {o : Int32} (hF : Fx E X cX10_isSet RX10 2 (some .boolean) 1) (h : f10_isSet N a1 S = some o) (hC : Q = RQ E X (some (.int o)) S) : J E X Q S 0 [(0, .ref (eA E 57)), (1, .int a1)] [] := by
  unfold f10_isSet at h
  refine j_iload_n hF rfl 1 rfl dX10_isSet_0 ?_
  refine j_iconst (v := (0 : Int32)) hF (by decide) dX10_isSet_1 ?_
  refine j_iconst (v := (1 : Int32)) hF (by decide) dX10_isSet_2 ?_
  refine j_aload_n hF rfl 0 rfl dX10_isSet_3 ?_
  refine gf10_3 hF (by decide) (s_57 E _) rfl bw_4_138 dX10_isSet_4 ?_
  refine j_iconst (v := (0 : Int32)) hF (by decide) dX10_isSet_7 ?_
  refine j_iald hF (by decide) (s_59 E) h dX10_isSet_8 (fun h => ?_)
  refine j_nmT h (fun x1 h => ?_)
  refine j_ishl hF dX10_isSet_9 ?_
  refine j_iconst (v := (1 : Int32)) hF (by decide) dX10_isSet_10 ?_
  refine j_isub hF dX10_isSet_11 ?_
  obtain ⟨r2, hr2, h⟩ := bnp_some h
  refine j_callS_i (As := [.int a1, .int (0 : Int32), .int (((1 : Int32) <<< (x1 &&& 31)) - (1 : Int32))]) (st := []) hF rfl mv_10_in bw_4_201 rfl (by decide) (Nat.le_of_ble_eq_true rfl) dX10_isSet_12 (c10_in hr2) ?_
  obtain ⟨hz, h⟩ := zg_some h
  obtain rfl := ret1 h
  exact j_ret_boolean hF (zg_nar hz) hC dX10_isSet_15
set_option maxHeartbeats 1000000 in
theorem c10_isSet {E : En} {N : Nat} {a1 : Int32} {S : Mem} {ro : Int32} (h : f10_isSet N a1 S = some ro) : CT E yX10_isSet cX10_isSet 2 (some .boolean) 1 [.ref (eA E 57), .int a1] S (some (.int ro)) S :=
  CT_of (by decide) (Nat.le_of_ble_eq_true rfl) (fun X hF => t10_isSet hF h rfl)
def f10_trueSum_b39 (N : Nat) (v1 : Int32) (v3 : Int32) (w0 : Int32) (w1 : Int32) (S : Mem) : Option ((Int32 × Int32) ⊕ (Int32)) :=
lt_ (w1 + w0) fun x3 =>
lt_ (v3 + (1 : Int32)) fun x4 =>
some (.inl (x3, x4))
def f10_trueSum_L9 (N : Nat) (v1 : Int32) (v2 : Int32) (v3 : Int32) (S : Mem) : Option ((Int32 × Int32) ⊕ (Int32)) :=
if (0 : Int32) < 0 ∨ 2 ≤ (0 : Int32).toNatClampNeg then none else
lt_ ((S 59).1 (0 : Int32).toNatClampNeg) fun x2 =>
if x2 ≤ v3 then
some (.inr (v2))
else
if ((v1 >>> (v3 &&& 31)) &&& (1 : Int32)) = (1 : Int32) then
if v3 < 0 ∨ 8 ≤ v3.toNatClampNeg then none else
lt_ ((S 60).1 v3.toNatClampNeg) fun x5 =>
f10_trueSum_b39 N v1 v3 x5 v2 S
else
f10_trueSum_b39 N v1 v3 (0 : Int32) v2 S
def f10_trueSum_b47 (N : Nat) (v2 : Int32) (S : Mem) : Option Int32 :=
some (v2)
def f10_trueSum (N : Nat) (a1 : Int32) (S : Mem) : Option Int32 :=
if (3 : Int32) < 0 ∨ 8 ≤ (3 : Int32).toNatClampNeg then none else
lt_ ((S 60).1 (3 : Int32).toNatClampNeg) fun x1 =>
bnp (lp N (fun s => f10_trueSum_L9 N a1 s.1 s.2 S) (x1, (0 : Int32))) fun z6 =>
f10_trueSum_b47 N z6 S
set_option maxHeartbeats 1000000 in
theorem t10_trueSum_b39 {E : En} {X : Cx} {Q : State → Prop} {N : Nat} {v1 : Int32} {v3 : Int32} {w0 : Int32} {w1 : Int32} {S : Mem} {o : ((Int32 × Int32) ⊕ (Int32))} (hF : Fx E X cX10_trueSum RX10 4 (some .int) 0) (h : f10_trueSum_b39 N v1 v3 w0 w1 S = some o) (hC : Sum.elim (fun (s : (Int32 × Int32)) => J E X Q S 9 [(0, .ref (eA E 57)), (1, .int v1), (2, .int s.1), (3, .int s.2)] []) (fun (x : (Int32)) => J E X Q S 47 [(2, .int x)] []) o) : J E X Q S 39 [(0, .ref (eA E 57)), (1, .int v1), (3, .int v3)] [.int w0, .int w1] := by
  unfold f10_trueSum_b39 at h
  refine j_iadd hF dX10_trueSum_39 ?_
  refine j_istore_n (lv' := [(2, .int (w1 + w0)), (0, .ref (eA E 57)), (1, .int v1), (3, .int v3)]) hF rfl (by decide) rfl dX10_trueSum_40 ?_
  refine j_nmL h (fun x3 h => ?_)
  refine j_iinc (v := (v3 + (1 : Int32))) (lv' := [(3, .int (v3 + (1 : Int32))), (2, .int x3), (0, .ref (eA E 57)), (1, .int v1)]) (q := 3) hF rfl (congrArg (fun z => v3 + z) (by decide)) (by decide) rfl dX10_trueSum_41 ?_
  refine j_nmL h (fun x4 h => ?_)
  refine j_goto (tgt := 9) hF (by decide) dX10_trueSum_44 ?_
  obtain rfl := ret1 h
  refine j_sub (lv' := [(0, .ref (eA E 57)), (1, .int v1), (2, .int x3), (3, .int x4)]) hF [2, 3, 1, 0] rfl ?_
  exact hC
set_option maxHeartbeats 1000000 in
theorem t10_trueSum_L9 {E : En} {X : Cx} {Q : State → Prop} {N : Nat} {v1 : Int32} {v2 : Int32} {v3 : Int32} {S : Mem} {o : ((Int32 × Int32) ⊕ (Int32))} (hF : Fx E X cX10_trueSum RX10 4 (some .int) 0) (h : f10_trueSum_L9 N v1 v2 v3 S = some o) (hC : Sum.elim (fun (s : (Int32 × Int32)) => J E X Q S 9 [(0, .ref (eA E 57)), (1, .int v1), (2, .int s.1), (3, .int s.2)] []) (fun (x : (Int32)) => J E X Q S 47 [(2, .int x)] []) o) : J E X Q S 9 [(0, .ref (eA E 57)), (1, .int v1), (2, .int v2), (3, .int v3)] [] := by
  unfold f10_trueSum_L9 at h
  refine j_iload_n hF rfl 3 rfl dX10_trueSum_9 ?_
  refine j_aload_n hF rfl 0 rfl dX10_trueSum_10 ?_
  refine gf10_3 hF (by decide) (s_57 E _) rfl bw_4_138 dX10_trueSum_11 ?_
  refine j_iconst (v := (0 : Int32)) hF (by decide) dX10_trueSum_14 ?_
  refine j_iald hF (by decide) (s_59 E) h dX10_trueSum_15 (fun h => ?_)
  refine j_nmT h (fun x2 h => ?_)
  refine j_icmp_ge (tgt := 47) hF h (by decide) dX10_trueSum_16 (fun h => ?_) (fun h => ?_)
  · obtain rfl := ret1 h
    refine j_sub (lv' := [(2, .int v2)]) hF [2] rfl ?_
    exact hC
  · refine j_iload_n hF rfl 2 rfl dX10_trueSum_19 ?_
    refine j_iload_n hF rfl 1 rfl dX10_trueSum_20 ?_
    refine j_iload_n hF rfl 3 rfl dX10_trueSum_21 ?_
    refine j_ishr hF dX10_trueSum_22 ?_
    refine j_iconst (v := (1 : Int32)) hF (by decide) dX10_trueSum_23 ?_
    refine j_iand hF dX10_trueSum_24 ?_
    refine j_iconst (v := (1 : Int32)) hF (by decide) dX10_trueSum_25 ?_
    refine j_icmp_ne (tgt := 38) hF h (by decide) dX10_trueSum_26 (fun h => ?_) (fun h => ?_)
    · refine j_iconst (v := (0 : Int32)) hF (by decide) dX10_trueSum_38 ?_
      refine j_sub (lv' := [(0, .ref (eA E 57)), (1, .int v1), (3, .int v3)]) hF [0, 1, 3] rfl ?_
      exact t10_trueSum_b39 hF h hC
    · refine j_aload_n hF rfl 0 rfl dX10_trueSum_29 ?_
      refine gf10_4 hF (by decide) (s_57 E _) rfl bw_4_139 dX10_trueSum_30 ?_
      refine j_iload_n hF rfl 3 rfl dX10_trueSum_33 ?_
      refine j_iald hF (by decide) (s_60 E) h dX10_trueSum_34 (fun h => ?_)
      refine j_nmT h (fun x5 h => ?_)
      refine j_goto (tgt := 39) hF (by decide) dX10_trueSum_35 ?_
      refine j_sub (lv' := [(0, .ref (eA E 57)), (1, .int v1), (3, .int v3)]) hF [0, 1, 3] rfl ?_
      exact t10_trueSum_b39 hF h hC
set_option maxHeartbeats 1000000 in
theorem t10_trueSum_b47 {E : En} {X : Cx} {Q : State → Prop} {N : Nat} {v2 : Int32} {S : Mem} {o : Int32} (hF : Fx E X cX10_trueSum RX10 4 (some .int) 0) (h : f10_trueSum_b47 N v2 S = some o) (hC : Q = RQ E X (some (.int o)) S) : J E X Q S 47 [(2, .int v2)] [] := by
  unfold f10_trueSum_b47 at h
  refine j_iload_n hF rfl 0 rfl dX10_trueSum_47 ?_
  obtain rfl := ret1 h
  exact j_iret hF hC dX10_trueSum_48
set_option maxHeartbeats 1000000 in
theorem t10_trueSum {E : En} {X : Cx} {Q : State → Prop} {N : Nat} {a1 : Int32} {S : Mem} {o : Int32} (hF : Fx E X cX10_trueSum RX10 4 (some .int) 0) (h : f10_trueSum N a1 S = some o) (hC : Q = RQ E X (some (.int o)) S) : J E X Q S 0 [(0, .ref (eA E 57)), (1, .int a1)] [] := by
  unfold f10_trueSum at h
  refine j_aload_n hF rfl 0 rfl dX10_trueSum_0 ?_
  refine gf10_4 hF (by decide) (s_57 E _) rfl bw_4_139 dX10_trueSum_1 ?_
  refine j_iconst (v := (3 : Int32)) hF (by decide) dX10_trueSum_4 ?_
  refine j_iald hF (by decide) (s_60 E) h dX10_trueSum_5 (fun h => ?_)
  refine j_nmT h (fun x1 h => ?_)
  refine j_istore_n (lv' := [(2, .int x1), (0, .ref (eA E 57)), (1, .int a1)]) hF rfl (by decide) rfl dX10_trueSum_6 ?_
  refine j_iconst (v := (0 : Int32)) hF (by decide) dX10_trueSum_7 ?_
  refine j_istore_n (lv' := [(3, .int (0 : Int32)), (2, .int x1), (0, .ref (eA E 57)), (1, .int a1)]) hF rfl (by decide) rfl dX10_trueSum_8 ?_
  obtain ⟨z6, hz6, h⟩ := bnp_some h
  refine j_sub (lv' := [(0, .ref (eA E 57)), (1, .int a1), (2, .int x1), (3, .int (0 : Int32))]) hF [2, 3, 1, 0] rfl ?_
  have hx : (fun (x : (Int32)) => J E X Q S 47 [(2, .int x)] []) z6 := by
    exact t10_trueSum_b47 hF h hC
  exact lp_rule (Jh := fun (s : (Int32 × Int32)) => J E X Q S 9 [(0, .ref (eA E 57)), (1, .int a1), (2, .int s.1), (3, .int s.2)] []) (C := fun (x : (Int32)) => J E X Q S 47 [(2, .int x)] []) (fun s o h hC => t10_trueSum_L9 hF h hC) N (x1, (0 : Int32)) z6 hz6 hx
set_option maxHeartbeats 1000000 in
theorem c10_trueSum {E : En} {N : Nat} {a1 : Int32} {S : Mem} {ro : Int32} (h : f10_trueSum N a1 S = some ro) : CT E yX10_trueSum cX10_trueSum 4 (some .int) 0 [.ref (eA E 57), .int a1] S (some (.int ro)) S :=
  CT_of (by decide) (Nat.le_of_ble_eq_true rfl) (fun X hF => t10_trueSum hF h rfl)
def f10_put (N : Nat) (a1 : Int32) (a2 : Int32) (a3 : Int32) (S : Mem) : Option (Unit × Mem) :=
if (0 : Int32) < 0 ∨ 3 ≤ (0 : Int32).toNatClampNeg then none else
lt_ ((S 62).1 (0 : Int32).toNatClampNeg) fun x1 =>
if ((3 : Int32) * x1) < 0 ∨ 108 ≤ ((3 : Int32) * x1).toNatClampNeg then none else
lt_ (wr S 63 ((3 : Int32) * x1).toNatClampNeg a1) fun S2 =>
if (0 : Int32) < 0 ∨ 3 ≤ (0 : Int32).toNatClampNeg then none else
lt_ ((S2 62).1 (0 : Int32).toNatClampNeg) fun x3 =>
if (((3 : Int32) * x3) + (1 : Int32)) < 0 ∨ 108 ≤ (((3 : Int32) * x3) + (1 : Int32)).toNatClampNeg then none else
lt_ (wr S2 63 (((3 : Int32) * x3) + (1 : Int32)).toNatClampNeg a2) fun S4 =>
if (0 : Int32) < 0 ∨ 3 ≤ (0 : Int32).toNatClampNeg then none else
lt_ ((S4 62).1 (0 : Int32).toNatClampNeg) fun x5 =>
if (((3 : Int32) * x5) + (2 : Int32)) < 0 ∨ 108 ≤ (((3 : Int32) * x5) + (2 : Int32)).toNatClampNeg then none else
lt_ (wr S4 63 (((3 : Int32) * x5) + (2 : Int32)).toNatClampNeg a3) fun S6 =>
if (0 : Int32) < 0 ∨ 3 ≤ (0 : Int32).toNatClampNeg then none else
lt_ ((S6 62).1 (0 : Int32).toNatClampNeg) fun x7 =>
if (0 : Int32) < 0 ∨ 3 ≤ (0 : Int32).toNatClampNeg then none else
lt_ (wr S6 62 (0 : Int32).toNatClampNeg (x7 + (1 : Int32))) fun S8 =>
some (((), S8))
set_option maxHeartbeats 1000000 in
theorem t10_put {E : En} {X : Cx} {Q : State → Prop} {N : Nat} {a1 : Int32} {a2 : Int32} {a3 : Int32} {S : Mem} {o : (Unit × Mem)} (hF : Fx E X cX10_put RX10 4 none 0) (h : f10_put N a1 a2 a3 S = some o) (hC : Q = RQ E X (none) o.2) : J E X Q S 0 [(0, .ref (eA E 57)), (1, .int a1), (2, .int a2), (3, .int a3)] [] := by
  unfold f10_put at h
  refine j_aload_n hF rfl 0 rfl dX10_put_0 ?_
  refine gf10_13 hF (by decide) (s_57 E _) rfl bw_4_148 dX10_put_1 ?_
  refine j_iconst (v := (3 : Int32)) hF (by decide) dX10_put_4 ?_
  refine j_aload_n hF rfl 0 rfl dX10_put_5 ?_
  refine gf10_12 hF (by decide) (s_57 E _) rfl bw_4_147 dX10_put_6 ?_
  refine j_iconst (v := (0 : Int32)) hF (by decide) dX10_put_9 ?_
  refine j_iald hF (by decide) (s_62 E) h dX10_put_10 (fun h => ?_)
  refine j_nmT h (fun x1 h => ?_)
  refine j_imul hF dX10_put_11 ?_
  refine j_iload_n hF rfl 1 rfl dX10_put_12 ?_
  refine j_iast hF (by decide) (s_63 E) h dX10_put_13 (fun h => ?_)
  refine j_nmM h (fun S2 h => ?_)
  refine j_aload_n hF rfl 0 rfl dX10_put_14 ?_
  refine gf10_13 hF (by decide) (s_57 E _) rfl bw_4_148 dX10_put_15 ?_
  refine j_iconst (v := (3 : Int32)) hF (by decide) dX10_put_18 ?_
  refine j_aload_n hF rfl 0 rfl dX10_put_19 ?_
  refine gf10_12 hF (by decide) (s_57 E _) rfl bw_4_147 dX10_put_20 ?_
  refine j_iconst (v := (0 : Int32)) hF (by decide) dX10_put_23 ?_
  refine j_iald hF (by decide) (s_62 E) h dX10_put_24 (fun h => ?_)
  refine j_nmT h (fun x3 h => ?_)
  refine j_imul hF dX10_put_25 ?_
  refine j_iconst (v := (1 : Int32)) hF (by decide) dX10_put_26 ?_
  refine j_iadd hF dX10_put_27 ?_
  refine j_iload_n hF rfl 2 rfl dX10_put_28 ?_
  refine j_iast hF (by decide) (s_63 E) h dX10_put_29 (fun h => ?_)
  refine j_nmM h (fun S4 h => ?_)
  refine j_aload_n hF rfl 0 rfl dX10_put_30 ?_
  refine gf10_13 hF (by decide) (s_57 E _) rfl bw_4_148 dX10_put_31 ?_
  refine j_iconst (v := (3 : Int32)) hF (by decide) dX10_put_34 ?_
  refine j_aload_n hF rfl 0 rfl dX10_put_35 ?_
  refine gf10_12 hF (by decide) (s_57 E _) rfl bw_4_147 dX10_put_36 ?_
  refine j_iconst (v := (0 : Int32)) hF (by decide) dX10_put_39 ?_
  refine j_iald hF (by decide) (s_62 E) h dX10_put_40 (fun h => ?_)
  refine j_nmT h (fun x5 h => ?_)
  refine j_imul hF dX10_put_41 ?_
  refine j_iconst (v := (2 : Int32)) hF (by decide) dX10_put_42 ?_
  refine j_iadd hF dX10_put_43 ?_
  refine j_iload_n hF rfl 3 rfl dX10_put_44 ?_
  refine j_iast hF (by decide) (s_63 E) h dX10_put_45 (fun h => ?_)
  refine j_nmM h (fun S6 h => ?_)
  refine j_aload_n hF rfl 0 rfl dX10_put_46 ?_
  refine gf10_12 hF (by decide) (s_57 E _) rfl bw_4_147 dX10_put_47 ?_
  refine j_iconst (v := (0 : Int32)) hF (by decide) dX10_put_50 ?_
  refine j_dup2 hF rfl rfl dX10_put_51 ?_
  refine j_iald hF (by decide) (s_62 E) h dX10_put_52 (fun h => ?_)
  refine j_nmT h (fun x7 h => ?_)
  refine j_iconst (v := (1 : Int32)) hF (by decide) dX10_put_53 ?_
  refine j_iadd hF dX10_put_54 ?_
  refine j_iast hF (by decide) (s_62 E) h dX10_put_55 (fun h => ?_)
  refine j_nmM h (fun S8 h => ?_)
  obtain rfl := ret1 h
  exact j_vret hF hC dX10_put_56
set_option maxHeartbeats 1000000 in
theorem c10_put {E : En} {N : Nat} {a1 : Int32} {a2 : Int32} {a3 : Int32} {S So : Mem} {ro : Unit} (h : f10_put N a1 a2 a3 S = some (ro, So)) : CT E yX10_put cX10_put 4 none 0 [.ref (eA E 57), .int a1, .int a2, .int a3] S (none) So :=
  CT_of (by decide) (Nat.le_of_ble_eq_true rfl) (fun X hF => t10_put hF h rfl)
def f10_weigh_b72 (N : Nat) (v4 : Int32) (w0 : Int32) (w1 : Int32) (w2 : Int32) (S : Mem) : Option (Int32 × Mem) :=
bnd (f10_put N w2 w1 w0 S) fun r8 S9 =>
some ((v4, S9))
def f10_weigh (N : Nat) (a1 : Int32) (a2 : Int32) (a3 : Int32) (S : Mem) : Option (Int32 × Mem) :=
bnp (f10_isSet N a1 S) fun r1 =>
if r1 = 0 then
some (((-1 : Int32), S))
else
bnp (f10_in N a2 (0 : Int32) (1 : Int32) S) fun r2 =>
if r2 = 0 then
some (((-1 : Int32), S))
else
bnp (f10_in N a3 (0 : Int32) (1 : Int32) S) fun r3 =>
if r3 = 0 then
some (((-1 : Int32), S))
else
if (0 : Int32) < 0 ∨ 3 ≤ (0 : Int32).toNatClampNeg then none else
lt_ ((S 62).1 (0 : Int32).toNatClampNeg) fun x4 =>
if x4 = (12 : Int32) then
some (((-3 : Int32), S))
else
bnp (f10_trueSum N a1 S) fun r5 =>
if (0 : Int32) < 0 ∨ 2 ≤ (0 : Int32).toNatClampNeg then none else
lt_ ((S 61).1 (0 : Int32).toNatClampNeg) fun x6 =>
if x6 = (0 : Int32) then none else
lt_ ((r5 + a2) - (r5 + a2) / x6 * x6) fun x7 =>
if a3 = (1 : Int32) then
f10_weigh_b72 N x7 a2 x7 a1 S
else
f10_weigh_b72 N x7 (2 : Int32) x7 a1 S
set_option maxHeartbeats 1000000 in
theorem t10_weigh_b72 {E : En} {X : Cx} {Q : State → Prop} {N : Nat} {v4 : Int32} {w0 : Int32} {w1 : Int32} {w2 : Int32} {S : Mem} {o : (Int32 × Mem)} (hF : Fx E X cX10_weigh RX10 5 (some .int) 2) (h : f10_weigh_b72 N v4 w0 w1 w2 S = some o) (hC : Q = RQ E X (some (.int o.1)) o.2) : J E X Q S 72 [(4, .int v4)] [.int w0, .int w1, .int w2, .ref (eA E 57)] := by
  unfold f10_weigh_b72 at h
  obtain ⟨r8, S9, hr8, h⟩ := bnd_some h
  refine j_callV_v (As := [.int w2, .int w1, .int w0]) (st := []) hF rfl mv_10_put (by decide) (s_57 E _) rfl bw_5_15 rfl (by decide) (Nat.le_of_ble_eq_true rfl) dX10_weigh_72 (c10_put hr8) ?_
  refine j_iload hF 0 rfl dX10_weigh_75 ?_
  obtain rfl := ret1 h
  exact j_iret hF hC dX10_weigh_77
set_option maxHeartbeats 1000000 in
theorem t10_weigh {E : En} {X : Cx} {Q : State → Prop} {N : Nat} {a1 : Int32} {a2 : Int32} {a3 : Int32} {S : Mem} {o : (Int32 × Mem)} (hF : Fx E X cX10_weigh RX10 5 (some .int) 2) (h : f10_weigh N a1 a2 a3 S = some o) (hC : Q = RQ E X (some (.int o.1)) o.2) : J E X Q S 0 [(0, .ref (eA E 57)), (1, .int a1), (2, .int a2), (3, .int a3)] [] := by
  unfold f10_weigh at h
  refine j_aload_n hF rfl 0 rfl dX10_weigh_0 ?_
  refine j_iload_n hF rfl 1 rfl dX10_weigh_1 ?_
  obtain ⟨r1, hr1, h⟩ := bnp_some h
  refine j_callV_i (As := [.int a1]) (st := []) hF rfl mv_10_isSet (by decide) (s_57 E _) rfl bw_5_7 rfl (by decide) (Nat.le_of_ble_eq_true rfl) dX10_weigh_2 (c10_isSet hr1) ?_
  refine j_if_eq (tgt := 26) hF h (by decide) dX10_weigh_5 (fun h => ?_) (fun h => ?_)
  · refine j_iconst (v := (-1 : Int32)) hF (by decide) dX10_weigh_26 ?_
    obtain rfl := ret1 h
    exact j_iret hF hC dX10_weigh_27
  · refine j_iload_n hF rfl 2 rfl dX10_weigh_8 ?_
    refine j_iconst (v := (0 : Int32)) hF (by decide) dX10_weigh_9 ?_
    refine j_iconst (v := (1 : Int32)) hF (by decide) dX10_weigh_10 ?_
    obtain ⟨r2, hr2, h⟩ := bnp_some h
    refine j_callS_i (As := [.int a2, .int (0 : Int32), .int (1 : Int32)]) (st := []) hF rfl mv_10_in bw_4_201 rfl (by decide) (Nat.le_of_ble_eq_true rfl) dX10_weigh_11 (c10_in hr2) ?_
    refine j_if_eq (tgt := 26) hF h (by decide) dX10_weigh_14 (fun h => ?_) (fun h => ?_)
    · refine j_iconst (v := (-1 : Int32)) hF (by decide) dX10_weigh_26 ?_
      obtain rfl := ret1 h
      exact j_iret hF hC dX10_weigh_27
    · refine j_iload_n hF rfl 3 rfl dX10_weigh_17 ?_
      refine j_iconst (v := (0 : Int32)) hF (by decide) dX10_weigh_18 ?_
      refine j_iconst (v := (1 : Int32)) hF (by decide) dX10_weigh_19 ?_
      obtain ⟨r3, hr3, h⟩ := bnp_some h
      refine j_callS_i (As := [.int a3, .int (0 : Int32), .int (1 : Int32)]) (st := []) hF rfl mv_10_in bw_4_201 rfl (by decide) (Nat.le_of_ble_eq_true rfl) dX10_weigh_20 (c10_in hr3) ?_
      refine j_if_ne (tgt := 28) hF h (by decide) dX10_weigh_23 (fun h => ?_) (fun h => ?_)
      · refine j_aload_n hF rfl 0 rfl dX10_weigh_28 ?_
        refine gf10_12 hF (by decide) (s_57 E _) rfl bw_4_147 dX10_weigh_29 ?_
        refine j_iconst (v := (0 : Int32)) hF (by decide) dX10_weigh_32 ?_
        refine j_iald hF (by decide) (s_62 E) h dX10_weigh_33 (fun h => ?_)
        refine j_nmT h (fun x4 h => ?_)
        refine j_bipush (v := (12 : Int32)) hF (by decide) dX10_weigh_34 ?_
        refine j_icmp_ne (tgt := 42) hF h (by decide) dX10_weigh_36 (fun h => ?_) (fun h => ?_)
        · refine j_aload_n hF rfl 0 rfl dX10_weigh_42 ?_
          refine j_iload_n hF rfl 1 rfl dX10_weigh_43 ?_
          obtain ⟨r5, hr5, h⟩ := bnp_some h
          refine j_callV_i (As := [.int a1]) (st := []) hF rfl mv_10_trueSum (by decide) (s_57 E _) rfl bw_5_11 rfl (by decide) (Nat.le_of_ble_eq_true rfl) dX10_weigh_44 (c10_trueSum hr5) ?_
          refine j_iload_n hF rfl 2 rfl dX10_weigh_47 ?_
          refine j_iadd hF dX10_weigh_48 ?_
          refine j_aload_n hF rfl 0 rfl dX10_weigh_49 ?_
          refine gf10_5 hF (by decide) (s_57 E _) rfl bw_4_140 dX10_weigh_50 ?_
          refine j_iconst (v := (0 : Int32)) hF (by decide) dX10_weigh_53 ?_
          refine j_iald hF (by decide) (s_61 E) h dX10_weigh_54 (fun h => ?_)
          refine j_nmT h (fun x6 h => ?_)
          refine j_irem hF h dX10_weigh_55 (fun h => ?_)
          refine j_istore (lv' := [(4, .int ((r5 + a2) - (r5 + a2) / x6 * x6)), (0, .ref (eA E 57)), (1, .int a1), (2, .int a2), (3, .int a3)]) hF (by decide) rfl dX10_weigh_56 ?_
          refine j_nmL h (fun x7 h => ?_)
          refine j_aload_n hF rfl 1 rfl dX10_weigh_58 ?_
          refine j_iload_n hF rfl 2 rfl dX10_weigh_59 ?_
          refine j_iload hF 0 rfl dX10_weigh_60 ?_
          refine j_iload_n hF rfl 4 rfl dX10_weigh_62 ?_
          refine j_iconst (v := (1 : Int32)) hF (by decide) dX10_weigh_63 ?_
          refine j_icmp_ne (tgt := 71) hF h (by decide) dX10_weigh_64 (fun h => ?_) (fun h => ?_)
          · refine j_iconst (v := (2 : Int32)) hF (by decide) dX10_weigh_71 ?_
            refine j_sub (lv' := [(4, .int x7)]) hF [0] rfl ?_
            exact t10_weigh_b72 hF h hC
          · refine j_iload_n hF rfl 3 rfl dX10_weigh_67 ?_
            refine j_goto (tgt := 72) hF (by decide) dX10_weigh_68 ?_
            refine j_sub (lv' := [(4, .int x7)]) hF [0] rfl ?_
            exact t10_weigh_b72 hF h hC
        · refine j_bipush (v := (-3 : Int32)) hF (by decide) dX10_weigh_39 ?_
          obtain rfl := ret1 h
          exact j_iret hF hC dX10_weigh_41
      · refine j_iconst (v := (-1 : Int32)) hF (by decide) dX10_weigh_26 ?_
        obtain rfl := ret1 h
        exact j_iret hF hC dX10_weigh_27
set_option maxHeartbeats 1000000 in
theorem c10_weigh {E : En} {N : Nat} {a1 : Int32} {a2 : Int32} {a3 : Int32} {S So : Mem} {ro : Int32} (h : f10_weigh N a1 a2 a3 S = some (ro, So)) : CT E yX10_weigh cX10_weigh 5 (some .int) 2 [.ref (eA E 57), .int a1, .int a2, .int a3] S (some (.int ro)) So :=
  CT_of (by decide) (Nat.le_of_ble_eq_true rfl) (fun X hF => t10_weigh hF h rfl)
def f10_tell (N : Nat) (a1 : Int32) (a2 : Int32) (a3 : Int32) (S : Mem) : Option (Int32 × Mem) :=
bnp (f10_isSet N a1 S) fun r1 =>
if r1 = 0 then
some (((-1 : Int32), S))
else
if (0 : Int32) < 0 ∨ 2 ≤ (0 : Int32).toNatClampNeg then none else
lt_ ((S 61).1 (0 : Int32).toNatClampNeg) fun x2 =>
bnp (f10_in N a2 (0 : Int32) (x2 - (1 : Int32)) S) fun r3 =>
if r3 = 0 then
some (((-1 : Int32), S))
else
bnp (f10_in N a3 (0 : Int32) (2 : Int32) S) fun r4 =>
if r4 = 0 then
some (((-1 : Int32), S))
else
if (0 : Int32) < 0 ∨ 3 ≤ (0 : Int32).toNatClampNeg then none else
lt_ ((S 62).1 (0 : Int32).toNatClampNeg) fun x5 =>
if x5 = (12 : Int32) then
some (((-3 : Int32), S))
else
bnd (f10_put N a1 a2 a3 S) fun r6 S7 =>
if (0 : Int32) < 0 ∨ 3 ≤ (0 : Int32).toNatClampNeg then none else
lt_ ((S7 62).1 (0 : Int32).toNatClampNeg) fun x8 =>
some ((x8, S7))
set_option maxHeartbeats 1000000 in
theorem t10_tell {E : En} {X : Cx} {Q : State → Prop} {N : Nat} {a1 : Int32} {a2 : Int32} {a3 : Int32} {S : Mem} {o : (Int32 × Mem)} (hF : Fx E X cX10_tell RX10 4 (some .int) 2) (h : f10_tell N a1 a2 a3 S = some o) (hC : Q = RQ E X (some (.int o.1)) o.2) : J E X Q S 0 [(0, .ref (eA E 57)), (1, .int a1), (2, .int a2), (3, .int a3)] [] := by
  unfold f10_tell at h
  refine j_aload_n hF rfl 0 rfl dX10_tell_0 ?_
  refine j_iload_n hF rfl 1 rfl dX10_tell_1 ?_
  obtain ⟨r1, hr1, h⟩ := bnp_some h
  refine j_callV_i (As := [.int a1]) (st := []) hF rfl mv_10_isSet (by decide) (s_57 E _) rfl bw_5_7 rfl (by decide) (Nat.le_of_ble_eq_true rfl) dX10_tell_2 (c10_isSet hr1) ?_
  refine j_if_eq (tgt := 33) hF h (by decide) dX10_tell_5 (fun h => ?_) (fun h => ?_)
  · refine j_iconst (v := (-1 : Int32)) hF (by decide) dX10_tell_33 ?_
    obtain rfl := ret1 h
    exact j_iret hF hC dX10_tell_34
  · refine j_iload_n hF rfl 2 rfl dX10_tell_8 ?_
    refine j_iconst (v := (0 : Int32)) hF (by decide) dX10_tell_9 ?_
    refine j_aload_n hF rfl 0 rfl dX10_tell_10 ?_
    refine gf10_5 hF (by decide) (s_57 E _) rfl bw_4_140 dX10_tell_11 ?_
    refine j_iconst (v := (0 : Int32)) hF (by decide) dX10_tell_14 ?_
    refine j_iald hF (by decide) (s_61 E) h dX10_tell_15 (fun h => ?_)
    refine j_nmT h (fun x2 h => ?_)
    refine j_iconst (v := (1 : Int32)) hF (by decide) dX10_tell_16 ?_
    refine j_isub hF dX10_tell_17 ?_
    obtain ⟨r3, hr3, h⟩ := bnp_some h
    refine j_callS_i (As := [.int a2, .int (0 : Int32), .int (x2 - (1 : Int32))]) (st := []) hF rfl mv_10_in bw_4_201 rfl (by decide) (Nat.le_of_ble_eq_true rfl) dX10_tell_18 (c10_in hr3) ?_
    refine j_if_eq (tgt := 33) hF h (by decide) dX10_tell_21 (fun h => ?_) (fun h => ?_)
    · refine j_iconst (v := (-1 : Int32)) hF (by decide) dX10_tell_33 ?_
      obtain rfl := ret1 h
      exact j_iret hF hC dX10_tell_34
    · refine j_iload_n hF rfl 3 rfl dX10_tell_24 ?_
      refine j_iconst (v := (0 : Int32)) hF (by decide) dX10_tell_25 ?_
      refine j_iconst (v := (2 : Int32)) hF (by decide) dX10_tell_26 ?_
      obtain ⟨r4, hr4, h⟩ := bnp_some h
      refine j_callS_i (As := [.int a3, .int (0 : Int32), .int (2 : Int32)]) (st := []) hF rfl mv_10_in bw_4_201 rfl (by decide) (Nat.le_of_ble_eq_true rfl) dX10_tell_27 (c10_in hr4) ?_
      refine j_if_ne (tgt := 35) hF h (by decide) dX10_tell_30 (fun h => ?_) (fun h => ?_)
      · refine j_aload_n hF rfl 0 rfl dX10_tell_35 ?_
        refine gf10_12 hF (by decide) (s_57 E _) rfl bw_4_147 dX10_tell_36 ?_
        refine j_iconst (v := (0 : Int32)) hF (by decide) dX10_tell_39 ?_
        refine j_iald hF (by decide) (s_62 E) h dX10_tell_40 (fun h => ?_)
        refine j_nmT h (fun x5 h => ?_)
        refine j_bipush (v := (12 : Int32)) hF (by decide) dX10_tell_41 ?_
        refine j_icmp_ne (tgt := 49) hF h (by decide) dX10_tell_43 (fun h => ?_) (fun h => ?_)
        · refine j_aload_n hF rfl 0 rfl dX10_tell_49 ?_
          refine j_iload_n hF rfl 1 rfl dX10_tell_50 ?_
          refine j_iload_n hF rfl 2 rfl dX10_tell_51 ?_
          refine j_iload_n hF rfl 3 rfl dX10_tell_52 ?_
          obtain ⟨r6, S7, hr6, h⟩ := bnd_some h
          refine j_callV_v (As := [.int a1, .int a2, .int a3]) (st := []) hF rfl mv_10_put (by decide) (s_57 E _) rfl bw_5_15 rfl (by decide) (Nat.le_of_ble_eq_true rfl) dX10_tell_53 (c10_put hr6) ?_
          refine j_aload_n hF rfl 0 rfl dX10_tell_56 ?_
          refine gf10_12 hF (by decide) (s_57 E _) rfl bw_4_147 dX10_tell_57 ?_
          refine j_iconst (v := (0 : Int32)) hF (by decide) dX10_tell_60 ?_
          refine j_iald hF (by decide) (s_62 E) h dX10_tell_61 (fun h => ?_)
          refine j_nmT h (fun x8 h => ?_)
          obtain rfl := ret1 h
          exact j_iret hF hC dX10_tell_62
        · refine j_bipush (v := (-3 : Int32)) hF (by decide) dX10_tell_46 ?_
          obtain rfl := ret1 h
          exact j_iret hF hC dX10_tell_48
      · refine j_iconst (v := (-1 : Int32)) hF (by decide) dX10_tell_33 ?_
        obtain rfl := ret1 h
        exact j_iret hF hC dX10_tell_34
set_option maxHeartbeats 1000000 in
theorem c10_tell {E : En} {N : Nat} {a1 : Int32} {a2 : Int32} {a3 : Int32} {S So : Mem} {ro : Int32} (h : f10_tell N a1 a2 a3 S = some (ro, So)) : CT E yX10_tell cX10_tell 4 (some .int) 2 [.ref (eA E 57), .int a1, .int a2, .int a3] S (some (.int ro)) So :=
  CT_of (by decide) (Nat.le_of_ble_eq_true rfl) (fun X hF => t10_tell hF h rfl)
def f10_isLine (N : Nat) (a1 : Int32) (S : Mem) : Option Int32 :=
if (0 : Int32) < 0 ∨ 3 ≤ (0 : Int32).toNatClampNeg then none else
lt_ ((S 62).1 (0 : Int32).toNatClampNeg) fun x1 =>
bnp (f10_in N a1 (0 : Int32) (x1 - (1 : Int32)) S) fun r2 =>
if r2 = 0 ∨ r2 = 1 then
some (r2) else none
set_option maxHeartbeats 1000000 in
theorem t10_isLine {E : En} {X : Cx} {Q : State → Prop} {N : Nat} {a1 : Int32} {S : Mem} {o : Int32} (hF : Fx E X cX10_isLine RX10 2 (some .boolean) 1) (h : f10_isLine N a1 S = some o) (hC : Q = RQ E X (some (.int o)) S) : J E X Q S 0 [(0, .ref (eA E 57)), (1, .int a1)] [] := by
  unfold f10_isLine at h
  refine j_iload_n hF rfl 1 rfl dX10_isLine_0 ?_
  refine j_iconst (v := (0 : Int32)) hF (by decide) dX10_isLine_1 ?_
  refine j_aload_n hF rfl 0 rfl dX10_isLine_2 ?_
  refine gf10_12 hF (by decide) (s_57 E _) rfl bw_4_147 dX10_isLine_3 ?_
  refine j_iconst (v := (0 : Int32)) hF (by decide) dX10_isLine_6 ?_
  refine j_iald hF (by decide) (s_62 E) h dX10_isLine_7 (fun h => ?_)
  refine j_nmT h (fun x1 h => ?_)
  refine j_iconst (v := (1 : Int32)) hF (by decide) dX10_isLine_8 ?_
  refine j_isub hF dX10_isLine_9 ?_
  obtain ⟨r2, hr2, h⟩ := bnp_some h
  refine j_callS_i (As := [.int a1, .int (0 : Int32), .int (x1 - (1 : Int32))]) (st := []) hF rfl mv_10_in bw_4_201 rfl (by decide) (Nat.le_of_ble_eq_true rfl) dX10_isLine_10 (c10_in hr2) ?_
  obtain ⟨hz, h⟩ := zg_some h
  obtain rfl := ret1 h
  exact j_ret_boolean hF (zg_nar hz) hC dX10_isLine_13
set_option maxHeartbeats 1000000 in
theorem c10_isLine {E : En} {N : Nat} {a1 : Int32} {S : Mem} {ro : Int32} (h : f10_isLine N a1 S = some ro) : CT E yX10_isLine cX10_isLine 2 (some .boolean) 1 [.ref (eA E 57), .int a1] S (some (.int ro)) S :=
  CT_of (by decide) (Nat.le_of_ble_eq_true rfl) (fun X hF => t10_isLine hF h rfl)
def f10_line (N : Nat) (a1 : Int32) (a2 : Int32) (S : Mem) : Option Int32 :=
bnp (f10_isLine N a1 S) fun r1 =>
if r1 = 0 then
some ((-1 : Int32))
else
bnp (f10_in N a2 (0 : Int32) (2 : Int32) S) fun r2 =>
if r2 = 0 then
some ((-1 : Int32))
else
if (((3 : Int32) * a1) + a2) < 0 ∨ 108 ≤ (((3 : Int32) * a1) + a2).toNatClampNeg then none else
lt_ ((S 63).1 (((3 : Int32) * a1) + a2).toNatClampNeg) fun x3 =>
some (x3)
set_option maxHeartbeats 1000000 in
theorem t10_line {E : En} {X : Cx} {Q : State → Prop} {N : Nat} {a1 : Int32} {a2 : Int32} {S : Mem} {o : Int32} (hF : Fx E X cX10_line RX10 3 (some .int) 2) (h : f10_line N a1 a2 S = some o) (hC : Q = RQ E X (some (.int o)) S) : J E X Q S 0 [(0, .ref (eA E 57)), (1, .int a1), (2, .int a2)] [] := by
  unfold f10_line at h
  refine j_aload_n hF rfl 0 rfl dX10_line_0 ?_
  refine j_iload_n hF rfl 1 rfl dX10_line_1 ?_
  obtain ⟨r1, hr1, h⟩ := bnp_some h
  refine j_callV_i (As := [.int a1]) (st := []) hF rfl mv_10_isLine (by decide) (s_57 E _) rfl bw_5_27 rfl (by decide) (Nat.le_of_ble_eq_true rfl) dX10_line_2 (c10_isLine hr1) ?_
  refine j_if_eq (tgt := 30) hF h (by decide) dX10_line_5 (fun h => ?_) (fun h => ?_)
  · refine j_iconst (v := (-1 : Int32)) hF (by decide) dX10_line_30 ?_
    obtain rfl := ret1 h
    exact j_iret hF hC dX10_line_31
  · refine j_iload_n hF rfl 2 rfl dX10_line_8 ?_
    refine j_iconst (v := (0 : Int32)) hF (by decide) dX10_line_9 ?_
    refine j_iconst (v := (2 : Int32)) hF (by decide) dX10_line_10 ?_
    obtain ⟨r2, hr2, h⟩ := bnp_some h
    refine j_callS_i (As := [.int a2, .int (0 : Int32), .int (2 : Int32)]) (st := []) hF rfl mv_10_in bw_4_201 rfl (by decide) (Nat.le_of_ble_eq_true rfl) dX10_line_11 (c10_in hr2) ?_
    refine j_if_eq (tgt := 30) hF h (by decide) dX10_line_14 (fun h => ?_) (fun h => ?_)
    · refine j_iconst (v := (-1 : Int32)) hF (by decide) dX10_line_30 ?_
      obtain rfl := ret1 h
      exact j_iret hF hC dX10_line_31
    · refine j_aload_n hF rfl 0 rfl dX10_line_17 ?_
      refine gf10_13 hF (by decide) (s_57 E _) rfl bw_4_148 dX10_line_18 ?_
      refine j_iconst (v := (3 : Int32)) hF (by decide) dX10_line_21 ?_
      refine j_iload_n hF rfl 1 rfl dX10_line_22 ?_
      refine j_imul hF dX10_line_23 ?_
      refine j_iload_n hF rfl 2 rfl dX10_line_24 ?_
      refine j_iadd hF dX10_line_25 ?_
      refine j_iald hF (by decide) (s_63 E) h dX10_line_26 (fun h => ?_)
      refine j_nmT h (fun x3 h => ?_)
      refine j_goto (tgt := 31) hF (by decide) dX10_line_27 ?_
      obtain rfl := ret1 h
      exact j_iret hF hC dX10_line_31
set_option maxHeartbeats 1000000 in
theorem c10_line {E : En} {N : Nat} {a1 : Int32} {a2 : Int32} {S : Mem} {ro : Int32} (h : f10_line N a1 a2 S = some ro) : CT E yX10_line cX10_line 3 (some .int) 2 [.ref (eA E 57), .int a1, .int a2] S (some (.int ro)) S :=
  CT_of (by decide) (Nat.le_of_ble_eq_true rfl) (fun X hF => t10_line hF h rfl)
def f10_undo (N : Nat) (S : Mem) : Option (Int32 × Mem) :=
if (0 : Int32) < 0 ∨ 3 ≤ (0 : Int32).toNatClampNeg then none else
lt_ ((S 62).1 (0 : Int32).toNatClampNeg) fun x1 =>
if x1 = 0 then
some (((-2 : Int32), S))
else
if (0 : Int32) < 0 ∨ 3 ≤ (0 : Int32).toNatClampNeg then none else
lt_ ((S 62).1 (0 : Int32).toNatClampNeg) fun x2 =>
if (0 : Int32) < 0 ∨ 3 ≤ (0 : Int32).toNatClampNeg then none else
lt_ (wr S 62 (0 : Int32).toNatClampNeg (x2 - (1 : Int32))) fun S3 =>
if (0 : Int32) < 0 ∨ 3 ≤ (0 : Int32).toNatClampNeg then none else
lt_ ((S3 62).1 (0 : Int32).toNatClampNeg) fun x4 =>
some ((x4, S3))
set_option maxHeartbeats 1000000 in
theorem t10_undo {E : En} {X : Cx} {Q : State → Prop} {N : Nat} {S : Mem} {o : (Int32 × Mem)} (hF : Fx E X cX10_undo RX10 1 (some .int) 0) (h : f10_undo N S = some o) (hC : Q = RQ E X (some (.int o.1)) o.2) : J E X Q S 0 [(0, .ref (eA E 57))] [] := by
  unfold f10_undo at h
  refine j_aload_n hF rfl 0 rfl dX10_undo_0 ?_
  refine gf10_12 hF (by decide) (s_57 E _) rfl bw_4_147 dX10_undo_1 ?_
  refine j_iconst (v := (0 : Int32)) hF (by decide) dX10_undo_4 ?_
  refine j_iald hF (by decide) (s_62 E) h dX10_undo_5 (fun h => ?_)
  refine j_nmT h (fun x1 h => ?_)
  refine j_if_ne (tgt := 12) hF h (by decide) dX10_undo_6 (fun h => ?_) (fun h => ?_)
  · refine j_aload_n hF rfl 0 rfl dX10_undo_12 ?_
    refine gf10_12 hF (by decide) (s_57 E _) rfl bw_4_147 dX10_undo_13 ?_
    refine j_iconst (v := (0 : Int32)) hF (by decide) dX10_undo_16 ?_
    refine j_dup2 hF rfl rfl dX10_undo_17 ?_
    refine j_iald hF (by decide) (s_62 E) h dX10_undo_18 (fun h => ?_)
    refine j_nmT h (fun x2 h => ?_)
    refine j_iconst (v := (1 : Int32)) hF (by decide) dX10_undo_19 ?_
    refine j_isub hF dX10_undo_20 ?_
    refine j_iast hF (by decide) (s_62 E) h dX10_undo_21 (fun h => ?_)
    refine j_nmM h (fun S3 h => ?_)
    refine j_aload_n hF rfl 0 rfl dX10_undo_22 ?_
    refine gf10_12 hF (by decide) (s_57 E _) rfl bw_4_147 dX10_undo_23 ?_
    refine j_iconst (v := (0 : Int32)) hF (by decide) dX10_undo_26 ?_
    refine j_iald hF (by decide) (s_62 E) h dX10_undo_27 (fun h => ?_)
    refine j_nmT h (fun x4 h => ?_)
    obtain rfl := ret1 h
    exact j_iret hF hC dX10_undo_28
  · refine j_bipush (v := (-2 : Int32)) hF (by decide) dX10_undo_9 ?_
    obtain rfl := ret1 h
    exact j_iret hF hC dX10_undo_11
set_option maxHeartbeats 1000000 in
theorem c10_undo {E : En} {N : Nat} {S So : Mem} {ro : Int32} (h : f10_undo N S = some (ro, So)) : CT E yX10_undo cX10_undo 1 (some .int) 0 [.ref (eA E 57)] S (some (.int ro)) So :=
  CT_of (by decide) (Nat.le_of_ble_eq_true rfl) (fun X hF => t10_undo hF h rfl)
def f10_worlds_L5 (N : Nat) (v1 : Int32) (v2 : Int32) (S : Mem) : Option ((Int32 × Int32) ⊕ (Int32)) :=
if (0 : Int32) < 0 ∨ 2 ≤ (0 : Int32).toNatClampNeg then none else
lt_ ((S 59).1 (0 : Int32).toNatClampNeg) fun x1 =>
if x1 ≤ v2 then
some (.inr (v1))
else
lt_ (v1 * (9 : Int32)) fun x2 =>
lt_ (v2 + (1 : Int32)) fun x3 =>
some (.inl (x2, x3))
def f10_worlds_b26 (N : Nat) (v1 : Int32) (S : Mem) : Option Int32 :=
some (v1)
def f10_worlds (N : Nat) (S : Mem) : Option Int32 :=
bnp (lp N (fun s => f10_worlds_L5 N s.1 s.2 S) ((10 : Int32), (0 : Int32))) fun z4 =>
f10_worlds_b26 N z4 S
set_option maxHeartbeats 1000000 in
theorem t10_worlds_L5 {E : En} {X : Cx} {Q : State → Prop} {N : Nat} {v1 : Int32} {v2 : Int32} {S : Mem} {o : ((Int32 × Int32) ⊕ (Int32))} (hF : Fx E X cX10_worlds RX10 3 (some .int) 0) (h : f10_worlds_L5 N v1 v2 S = some o) (hC : Sum.elim (fun (s : (Int32 × Int32)) => J E X Q S 5 [(0, .ref (eA E 57)), (1, .int s.1), (2, .int s.2)] []) (fun (x : (Int32)) => J E X Q S 26 [(1, .int x)] []) o) : J E X Q S 5 [(0, .ref (eA E 57)), (1, .int v1), (2, .int v2)] [] := by
  unfold f10_worlds_L5 at h
  refine j_iload_n hF rfl 2 rfl dX10_worlds_5 ?_
  refine j_aload_n hF rfl 0 rfl dX10_worlds_6 ?_
  refine gf10_3 hF (by decide) (s_57 E _) rfl bw_4_138 dX10_worlds_7 ?_
  refine j_iconst (v := (0 : Int32)) hF (by decide) dX10_worlds_10 ?_
  refine j_iald hF (by decide) (s_59 E) h dX10_worlds_11 (fun h => ?_)
  refine j_nmT h (fun x1 h => ?_)
  refine j_icmp_ge (tgt := 26) hF h (by decide) dX10_worlds_12 (fun h => ?_) (fun h => ?_)
  · obtain rfl := ret1 h
    refine j_sub (lv' := [(1, .int v1)]) hF [1] rfl ?_
    exact hC
  · refine j_iload_n hF rfl 1 rfl dX10_worlds_15 ?_
    refine j_bipush (v := (9 : Int32)) hF (by decide) dX10_worlds_16 ?_
    refine j_imul hF dX10_worlds_18 ?_
    refine j_istore_n (lv' := [(1, .int (v1 * (9 : Int32))), (0, .ref (eA E 57)), (2, .int v2)]) hF rfl (by decide) rfl dX10_worlds_19 ?_
    refine j_nmL h (fun x2 h => ?_)
    refine j_iinc (v := (v2 + (1 : Int32))) (lv' := [(2, .int (v2 + (1 : Int32))), (1, .int x2), (0, .ref (eA E 57))]) (q := 2) hF rfl (congrArg (fun z => v2 + z) (by decide)) (by decide) rfl dX10_worlds_20 ?_
    refine j_nmL h (fun x3 h => ?_)
    refine j_goto (tgt := 5) hF (by decide) dX10_worlds_23 ?_
    obtain rfl := ret1 h
    refine j_sub (lv' := [(0, .ref (eA E 57)), (1, .int x2), (2, .int x3)]) hF [2, 1, 0] rfl ?_
    exact hC
set_option maxHeartbeats 1000000 in
theorem t10_worlds_b26 {E : En} {X : Cx} {Q : State → Prop} {N : Nat} {v1 : Int32} {S : Mem} {o : Int32} (hF : Fx E X cX10_worlds RX10 3 (some .int) 0) (h : f10_worlds_b26 N v1 S = some o) (hC : Q = RQ E X (some (.int o)) S) : J E X Q S 26 [(1, .int v1)] [] := by
  unfold f10_worlds_b26 at h
  refine j_iload_n hF rfl 0 rfl dX10_worlds_26 ?_
  obtain rfl := ret1 h
  exact j_iret hF hC dX10_worlds_27
set_option maxHeartbeats 1000000 in
theorem t10_worlds {E : En} {X : Cx} {Q : State → Prop} {N : Nat} {S : Mem} {o : Int32} (hF : Fx E X cX10_worlds RX10 3 (some .int) 0) (h : f10_worlds N S = some o) (hC : Q = RQ E X (some (.int o)) S) : J E X Q S 0 [(0, .ref (eA E 57))] [] := by
  unfold f10_worlds at h
  refine j_bipush (v := (10 : Int32)) hF (by decide) dX10_worlds_0 ?_
  refine j_istore_n (lv' := [(1, .int (10 : Int32)), (0, .ref (eA E 57))]) hF rfl (by decide) rfl dX10_worlds_2 ?_
  refine j_iconst (v := (0 : Int32)) hF (by decide) dX10_worlds_3 ?_
  refine j_istore_n (lv' := [(2, .int (0 : Int32)), (1, .int (10 : Int32)), (0, .ref (eA E 57))]) hF rfl (by decide) rfl dX10_worlds_4 ?_
  obtain ⟨z4, hz4, h⟩ := bnp_some h
  refine j_sub (lv' := [(0, .ref (eA E 57)), (1, .int (10 : Int32)), (2, .int (0 : Int32))]) hF [2, 1, 0] rfl ?_
  have hx : (fun (x : (Int32)) => J E X Q S 26 [(1, .int x)] []) z4 := by
    exact t10_worlds_b26 hF h hC
  exact lp_rule (Jh := fun (s : (Int32 × Int32)) => J E X Q S 5 [(0, .ref (eA E 57)), (1, .int s.1), (2, .int s.2)] []) (C := fun (x : (Int32)) => J E X Q S 26 [(1, .int x)] []) (fun s o h hC => t10_worlds_L5 hF h hC) N ((10 : Int32), (0 : Int32)) z4 hz4 hx
set_option maxHeartbeats 1000000 in
theorem c10_worlds {E : En} {N : Nat} {S : Mem} {ro : Int32} (h : f10_worlds N S = some ro) : CT E yX10_worlds cX10_worlds 3 (some .int) 0 [.ref (eA E 57)] S (some (.int ro)) S :=
  CT_of (by decide) (Nat.le_of_ble_eq_true rfl) (fun X hF => t10_worlds hF h rfl)
def f10_go_L17 (N : Nat) (v2 : Int32) (v3 : Int32) (S : Mem) : Option ((Int32 × Int32 × Mem) ⊕ (Mem)) :=
if (0 : Int32) < 0 ∨ 2 ≤ (0 : Int32).toNatClampNeg then none else
lt_ ((S 59).1 (0 : Int32).toNatClampNeg) fun x3 =>
if x3 ≤ v3 then
some (.inr (S))
else
if (9 : Int32) = (0 : Int32) then none else
if v3 < 0 ∨ 4 ≤ v3.toNatClampNeg then none else
lt_ (wr S 65 v3.toNatClampNeg ((1 : Int32) + (v2 - v2 / (9 : Int32) * (9 : Int32)))) fun S4 =>
if (9 : Int32) = (0 : Int32) then none else
lt_ (v2 / (9 : Int32)) fun x5 =>
lt_ (v3 + (1 : Int32)) fun x6 =>
some (.inl (x5, x6, S4))
def f10_go_b50 (N : Nat) (S : Mem) : Option (Unit × Mem) :=
some (((), S))
def f10_go (N : Nat) (a1 : Int32) (S : Mem) : Option (Unit × Mem) :=
if (10 : Int32) = (0 : Int32) then none else
if (3 : Int32) < 0 ∨ 4 ≤ (3 : Int32).toNatClampNeg then none else
lt_ (wr S 65 (3 : Int32).toNatClampNeg (a1 - a1 / (10 : Int32) * (10 : Int32))) fun S1 =>
if (10 : Int32) = (0 : Int32) then none else
lt_ (a1 / (10 : Int32)) fun x2 =>
bnp (lp N (fun s => f10_go_L17 N s.1 s.2.1 s.2.2) (x2, (0 : Int32), S1)) fun z7 =>
f10_go_b50 N z7
set_option maxHeartbeats 1000000 in
theorem t10_go_L17 {E : En} {X : Cx} {Q : State → Prop} {N : Nat} {v2 : Int32} {v3 : Int32} {S : Mem} {o : ((Int32 × Int32 × Mem) ⊕ (Mem))} (hF : Fx E X cX10_go RX10 4 none 0) (h : f10_go_L17 N v2 v3 S = some o) (hC : Sum.elim (fun (s : (Int32 × Int32 × Mem)) => J E X Q s.2.2 17 [(0, .ref (eA E 57)), (2, .int s.1), (3, .int s.2.1)] []) (fun (x : (Mem)) => J E X Q x 50 [] []) o) : J E X Q S 17 [(0, .ref (eA E 57)), (2, .int v2), (3, .int v3)] [] := by
  unfold f10_go_L17 at h
  refine j_iload_n hF rfl 2 rfl dX10_go_17 ?_
  refine j_aload_n hF rfl 0 rfl dX10_go_18 ?_
  refine gf10_3 hF (by decide) (s_57 E _) rfl bw_4_138 dX10_go_19 ?_
  refine j_iconst (v := (0 : Int32)) hF (by decide) dX10_go_22 ?_
  refine j_iald hF (by decide) (s_59 E) h dX10_go_23 (fun h => ?_)
  refine j_nmT h (fun x3 h => ?_)
  refine j_icmp_ge (tgt := 50) hF h (by decide) dX10_go_24 (fun h => ?_) (fun h => ?_)
  · obtain rfl := ret1 h
    refine j_sub (lv' := []) hF [] rfl ?_
    exact hC
  · refine j_aload_n hF rfl 0 rfl dX10_go_27 ?_
    refine gf10_15 hF (by decide) (s_57 E _) rfl bw_4_150 dX10_go_28 ?_
    refine j_iload_n hF rfl 2 rfl dX10_go_31 ?_
    refine j_iconst (v := (1 : Int32)) hF (by decide) dX10_go_32 ?_
    refine j_iload_n hF rfl 1 rfl dX10_go_33 ?_
    refine j_bipush (v := (9 : Int32)) hF (by decide) dX10_go_34 ?_
    refine j_irem hF h dX10_go_36 (fun h => ?_)
    refine j_iadd hF dX10_go_37 ?_
    refine j_iast hF (by decide) (s_65 E) h dX10_go_38 (fun h => ?_)
    refine j_nmM h (fun S4 h => ?_)
    refine j_iload_n hF rfl 1 rfl dX10_go_39 ?_
    refine j_bipush (v := (9 : Int32)) hF (by decide) dX10_go_40 ?_
    refine j_idiv hF h dX10_go_42 (fun h => ?_)
    refine j_istore_n (lv' := [(2, .int (v2 / (9 : Int32))), (0, .ref (eA E 57)), (3, .int v3)]) hF rfl (by decide) rfl dX10_go_43 ?_
    refine j_nmL h (fun x5 h => ?_)
    refine j_iinc (v := (v3 + (1 : Int32))) (lv' := [(3, .int (v3 + (1 : Int32))), (2, .int x5), (0, .ref (eA E 57))]) (q := 2) hF rfl (congrArg (fun z => v3 + z) (by decide)) (by decide) rfl dX10_go_44 ?_
    refine j_nmL h (fun x6 h => ?_)
    refine j_goto (tgt := 17) hF (by decide) dX10_go_47 ?_
    obtain rfl := ret1 h
    refine j_sub (lv' := [(0, .ref (eA E 57)), (2, .int x5), (3, .int x6)]) hF [2, 1, 0] rfl ?_
    exact hC
set_option maxHeartbeats 1000000 in
theorem t10_go_b50 {E : En} {X : Cx} {Q : State → Prop} {N : Nat} {S : Mem} {o : (Unit × Mem)} (hF : Fx E X cX10_go RX10 4 none 0) (h : f10_go_b50 N S = some o) (hC : Q = RQ E X (none) o.2) : J E X Q S 50 [] [] := by
  unfold f10_go_b50 at h
  obtain rfl := ret1 h
  exact j_vret hF hC dX10_go_50
set_option maxHeartbeats 1000000 in
theorem t10_go {E : En} {X : Cx} {Q : State → Prop} {N : Nat} {a1 : Int32} {S : Mem} {o : (Unit × Mem)} (hF : Fx E X cX10_go RX10 4 none 0) (h : f10_go N a1 S = some o) (hC : Q = RQ E X (none) o.2) : J E X Q S 0 [(0, .ref (eA E 57)), (1, .int a1)] [] := by
  unfold f10_go at h
  refine j_aload_n hF rfl 0 rfl dX10_go_0 ?_
  refine gf10_15 hF (by decide) (s_57 E _) rfl bw_4_150 dX10_go_1 ?_
  refine j_iconst (v := (3 : Int32)) hF (by decide) dX10_go_4 ?_
  refine j_iload_n hF rfl 1 rfl dX10_go_5 ?_
  refine j_bipush (v := (10 : Int32)) hF (by decide) dX10_go_6 ?_
  refine j_irem hF h dX10_go_8 (fun h => ?_)
  refine j_iast hF (by decide) (s_65 E) h dX10_go_9 (fun h => ?_)
  refine j_nmM h (fun S1 h => ?_)
  refine j_iload_n hF rfl 1 rfl dX10_go_10 ?_
  refine j_bipush (v := (10 : Int32)) hF (by decide) dX10_go_11 ?_
  refine j_idiv hF h dX10_go_13 (fun h => ?_)
  refine j_istore_n (lv' := [(2, .int (a1 / (10 : Int32))), (0, .ref (eA E 57)), (1, .int a1)]) hF rfl (by decide) rfl dX10_go_14 ?_
  refine j_nmL h (fun x2 h => ?_)
  refine j_iconst (v := (0 : Int32)) hF (by decide) dX10_go_15 ?_
  refine j_istore_n (lv' := [(3, .int (0 : Int32)), (2, .int x2), (0, .ref (eA E 57)), (1, .int a1)]) hF rfl (by decide) rfl dX10_go_16 ?_
  obtain ⟨z7, hz7, h⟩ := bnp_some h
  refine j_sub (lv' := [(0, .ref (eA E 57)), (2, .int x2), (3, .int (0 : Int32))]) hF [2, 1, 0] rfl ?_
  have hx : (fun (x : (Mem)) => J E X Q x 50 [] []) z7 := by
    exact t10_go_b50 hF h hC
  exact lp_rule (Jh := fun (s : (Int32 × Int32 × Mem)) => J E X Q s.2.2 17 [(0, .ref (eA E 57)), (2, .int s.1), (3, .int s.2.1)] []) (C := fun (x : (Mem)) => J E X Q x 50 [] []) (fun s o h hC => t10_go_L17 hF h hC) N (x2, (0 : Int32), S1) z7 hz7 hx
set_option maxHeartbeats 1000000 in
theorem c10_go {E : En} {N : Nat} {a1 : Int32} {S So : Mem} {ro : Unit} (h : f10_go N a1 S = some (ro, So)) : CT E yX10_go cX10_go 4 none 0 [.ref (eA E 57), .int a1] S (none) So :=
  CT_of (by decide) (Nat.le_of_ble_eq_true rfl) (fun X hF => t10_go hF h rfl)
