def f6_things_5 (N : Nat) (S : Mem) : Option Int32 :=
some (((S 5).1 2))
set_option maxHeartbeats 1000000 in
theorem t6_things_5 {E : En} {X : Cx} {Q : State → Prop} {N : Nat} {S : Mem} {o : Int32} (hF : Fx E X cX6_things RX6 1 (some .int) 0) (h : f6_things_5 N S = some o) (hC : Q = RQ E X (some (.int o)) S) : J E X Q S 0 [(0, .ref (eA E 5))] [] := by
  unfold f6_things_5 at h
  refine j_aload_n hF rfl 0 rfl dX6_things_0 ?_
  refine gf6_2 hF (by decide) (s_5 E _) rfl bw_1_66 dX6_things_1 ?_
  obtain rfl := ret1 h
  exact j_iret hF hC dX6_things_4
set_option maxHeartbeats 1000000 in
theorem c6_things_5 {E : En} {N : Nat} {S : Mem} {ro : Int32} (h : f6_things_5 N S = some ro) : CT E yX6_things cX6_things 1 (some .int) 0 [.ref (eA E 5)] S (some (.int ro)) S :=
  CT_of (by decide) (Nat.le_of_ble_eq_true rfl) (fun X hF => t6_things_5 hF h rfl)
def f4_mayBegin (N : Nat) (a1 : Int32) (S : Mem) : Option Int32 :=
if a1 = (2 : Int32) then
bnp (f6_things_5 N S) fun r1 =>
if (3 : Int32) ≤ r1 then
some ((0 : Int32))
else
some ((1 : Int32))
else
if a1 = (3 : Int32) then
if ((S 4).1 3) = 0 then
some ((1 : Int32))
else
some ((0 : Int32))
else
if a1 = (4 : Int32) then
if ((S 4).1 4) = 0 then
some ((1 : Int32))
else
some ((0 : Int32))
else
some ((0 : Int32))
set_option maxHeartbeats 1000000 in
theorem t4_mayBegin {E : En} {X : Cx} {Q : State → Prop} {N : Nat} {a1 : Int32} {S : Mem} {o : Int32} (hF : Fx E X cX4_mayBegin RX4 2 (some .boolean) 1) (h : f4_mayBegin N a1 S = some o) (hC : Q = RQ E X (some (.int o)) S) : J E X Q S 0 [(0, .ref (eA E 4)), (1, .int a1)] [] := by
  unfold f4_mayBegin at h
  refine j_iload_n hF rfl 1 rfl dX4_mayBegin_0 ?_
  by_cases c0 : a1 = (2 : Int32)
  · rw [if_pos c0] at h
    refine j_tswIn (tgt := 28) hF c0 (by decide) (by decide) rfl (by decide) dX4_mayBegin_1 ?_
    refine j_aload_n hF rfl 0 rfl dX4_mayBegin_28 ?_
    refine gf4_1 hF (by decide) (s_4 E _) rfl bw_1_81 dX4_mayBegin_29 ?_
    obtain ⟨r1, hr1, h⟩ := bnp_some h
    refine j_callV_i (As := []) (st := []) hF rfl mv_6_things (by decide) (s_5 E _) rfl bw_2_155 rfl (by decide) (Nat.le_of_ble_eq_true rfl) dX4_mayBegin_32 (c6_things_5 hr1) ?_
    refine j_iconst (v := (3 : Int32)) hF (by decide) dX4_mayBegin_35 ?_
    refine j_icmp_ge (tgt := 43) hF h (by decide) dX4_mayBegin_36 (fun h => ?_) (fun h => ?_)
    · refine j_iconst (v := (0 : Int32)) hF (by decide) dX4_mayBegin_43 ?_
      obtain rfl := ret1 h
      exact j_ret_boolean hF (by decide) hC dX4_mayBegin_44
    · refine j_iconst (v := (1 : Int32)) hF (by decide) dX4_mayBegin_39 ?_
      refine j_goto (tgt := 44) hF (by decide) dX4_mayBegin_40 ?_
      obtain rfl := ret1 h
      exact j_ret_boolean hF (by decide) hC dX4_mayBegin_44
  · rw [if_neg c0] at h
    by_cases c1 : a1 = (3 : Int32)
    · rw [if_pos c1] at h
      refine j_tswIn (tgt := 45) hF c1 (by decide) (by decide) rfl (by decide) dX4_mayBegin_1 ?_
      refine j_aload_n hF rfl 0 rfl dX4_mayBegin_45 ?_
      refine gf4_3 hF (by decide) (s_4 E _) rfl bw_1_83 dX4_mayBegin_46 ?_
      refine j_if_ne (tgt := 56) hF h (by decide) dX4_mayBegin_49 (fun h => ?_) (fun h => ?_)
      · refine j_iconst (v := (0 : Int32)) hF (by decide) dX4_mayBegin_56 ?_
        obtain rfl := ret1 h
        exact j_ret_boolean hF (by decide) hC dX4_mayBegin_57
      · refine j_iconst (v := (1 : Int32)) hF (by decide) dX4_mayBegin_52 ?_
        refine j_goto (tgt := 57) hF (by decide) dX4_mayBegin_53 ?_
        obtain rfl := ret1 h
        exact j_ret_boolean hF (by decide) hC dX4_mayBegin_57
    · rw [if_neg c1] at h
      by_cases c2 : a1 = (4 : Int32)
      · rw [if_pos c2] at h
        refine j_tswIn (tgt := 58) hF c2 (by decide) (by decide) rfl (by decide) dX4_mayBegin_1 ?_
        refine j_aload_n hF rfl 0 rfl dX4_mayBegin_58 ?_
        refine gf4_4 hF (by decide) (s_4 E _) rfl bw_1_84 dX4_mayBegin_59 ?_
        refine j_if_ne (tgt := 69) hF h (by decide) dX4_mayBegin_62 (fun h => ?_) (fun h => ?_)
        · refine j_iconst (v := (0 : Int32)) hF (by decide) dX4_mayBegin_69 ?_
          obtain rfl := ret1 h
          exact j_ret_boolean hF (by decide) hC dX4_mayBegin_70
        · refine j_iconst (v := (1 : Int32)) hF (by decide) dX4_mayBegin_65 ?_
          refine j_goto (tgt := 70) hF (by decide) dX4_mayBegin_66 ?_
          obtain rfl := ret1 h
          exact j_ret_boolean hF (by decide) hC dX4_mayBegin_70
      · rw [if_neg c2] at h
        have e0 : a1.toInt ≠ 2 := ne_toInt c0
        have e1 : a1.toInt ≠ 3 := ne_toInt c1
        have e2 : a1.toInt ≠ 4 := ne_toInt c2
        refine j_tswOut (tgt := 71) hF (by omega) (by decide) dX4_mayBegin_1 ?_
        refine j_iconst (v := (0 : Int32)) hF (by decide) dX4_mayBegin_71 ?_
        obtain rfl := ret1 h
        exact j_ret_boolean hF (by decide) hC dX4_mayBegin_72
set_option maxHeartbeats 1000000 in
theorem c4_mayBegin {E : En} {N : Nat} {a1 : Int32} {S : Mem} {ro : Int32} (h : f4_mayBegin N a1 S = some ro) : CT E yX4_mayBegin cX4_mayBegin 2 (some .boolean) 1 [.ref (eA E 4), .int a1] S (some (.int ro)) S :=
  CT_of (by decide) (Nat.le_of_ble_eq_true rfl) (fun X hF => t4_mayBegin hF h rfl)
def f4_mayTake (N : Nat) (a1 : Int32) (S : Mem) : Option Int32 :=
if a1 = (2 : Int32) then
bnp (f9_isBetween N ((S 4).1 7) (1 : Int32) (9 : Int32) S) fun r1 =>
if r1 = 0 ∨ r1 = 1 then
some (r1) else none
else
if a1 = (3 : Int32) then
bnp (f9_isBetween N ((S 4).1 7) (0 : Int32) (9 : Int32) S) fun r2 =>
if r2 = 0 ∨ r2 = 1 then
some (r2) else none
else
bnp (f9_isBetween N ((S 4).1 7) (2 : Int32) (20 : Int32) S) fun r3 =>
if r3 = 0 ∨ r3 = 1 then
some (r3) else none
set_option maxHeartbeats 1000000 in
theorem t4_mayTake {E : En} {X : Cx} {Q : State → Prop} {N : Nat} {a1 : Int32} {S : Mem} {o : Int32} (hF : Fx E X cX4_mayTake RX4 2 (some .boolean) 1) (h : f4_mayTake N a1 S = some o) (hC : Q = RQ E X (some (.int o)) S) : J E X Q S 0 [(0, .ref (eA E 4)), (1, .int a1)] [] := by
  unfold f4_mayTake at h
  refine j_iload_n hF rfl 1 rfl dX4_mayTake_0 ?_
  by_cases c0 : a1 = (2 : Int32)
  · rw [if_pos c0] at h
    refine j_lswIn (tgt := 28) hF c0 (by decide) rfl (by decide) dX4_mayTake_1 ?_
    refine j_aload_n hF rfl 0 rfl dX4_mayTake_28 ?_
    refine gf4_7 hF (by decide) (s_4 E _) rfl bw_1_87 dX4_mayTake_29 ?_
    refine j_iconst (v := (1 : Int32)) hF (by decide) dX4_mayTake_32 ?_
    refine j_bipush (v := (9 : Int32)) hF (by decide) dX4_mayTake_33 ?_
    obtain ⟨r1, hr1, h⟩ := bnp_some h
    refine j_callN_i (As := [.int ((S 4).1 7), .int (1 : Int32), .int (9 : Int32)]) (st := []) hF rfl rfl mv_9_isBetween rfl (by decide) (Nat.le_of_ble_eq_true rfl) dX4_mayTake_35 (c9_isBetween hr1) ?_
    obtain ⟨hz, h⟩ := zg_some h
    obtain rfl := ret1 h
    exact j_ret_boolean hF (zg_nar hz) hC dX4_mayTake_38
  · rw [if_neg c0] at h
    by_cases c1 : a1 = (3 : Int32)
    · rw [if_pos c1] at h
      refine j_lswIn (tgt := 39) hF c1 (by decide) rfl (by decide) dX4_mayTake_1 ?_
      refine j_aload_n hF rfl 0 rfl dX4_mayTake_39 ?_
      refine gf4_7 hF (by decide) (s_4 E _) rfl bw_1_87 dX4_mayTake_40 ?_
      refine j_iconst (v := (0 : Int32)) hF (by decide) dX4_mayTake_43 ?_
      refine j_bipush (v := (9 : Int32)) hF (by decide) dX4_mayTake_44 ?_
      obtain ⟨r2, hr2, h⟩ := bnp_some h
      refine j_callN_i (As := [.int ((S 4).1 7), .int (0 : Int32), .int (9 : Int32)]) (st := []) hF rfl rfl mv_9_isBetween rfl (by decide) (Nat.le_of_ble_eq_true rfl) dX4_mayTake_46 (c9_isBetween hr2) ?_
      obtain ⟨hz, h⟩ := zg_some h
      obtain rfl := ret1 h
      exact j_ret_boolean hF (zg_nar hz) hC dX4_mayTake_49
    · rw [if_neg c1] at h
      have e0 : a1.toInt ≠ 2 := ne_toInt c0
      have e1 : a1.toInt ≠ 3 := ne_toInt c1
      refine j_lswIn2 (tgt := 50) (off := 49) hF (by decide) (by simp [Op.lookupswitch.offset, e0, e1, Ne.symm e0, Ne.symm e1]) (by decide) dX4_mayTake_1 ?_
      refine j_aload_n hF rfl 0 rfl dX4_mayTake_50 ?_
      refine gf4_7 hF (by decide) (s_4 E _) rfl bw_1_87 dX4_mayTake_51 ?_
      refine j_iconst (v := (2 : Int32)) hF (by decide) dX4_mayTake_54 ?_
      refine j_bipush (v := (20 : Int32)) hF (by decide) dX4_mayTake_55 ?_
      obtain ⟨r3, hr3, h⟩ := bnp_some h
      refine j_callN_i (As := [.int ((S 4).1 7), .int (2 : Int32), .int (20 : Int32)]) (st := []) hF rfl rfl mv_9_isBetween rfl (by decide) (Nat.le_of_ble_eq_true rfl) dX4_mayTake_57 (c9_isBetween hr3) ?_
      obtain ⟨hz, h⟩ := zg_some h
      obtain rfl := ret1 h
      exact j_ret_boolean hF (zg_nar hz) hC dX4_mayTake_60
set_option maxHeartbeats 1000000 in
theorem c4_mayTake {E : En} {N : Nat} {a1 : Int32} {S : Mem} {ro : Int32} (h : f4_mayTake N a1 S = some ro) : CT E yX4_mayTake cX4_mayTake 2 (some .boolean) 1 [.ref (eA E 4), .int a1] S (some (.int ro)) S :=
  CT_of (by decide) (Nat.le_of_ble_eq_true rfl) (fun X hF => t4_mayTake hF h rfl)
def f6_addThing_5 (N : Nat) (a1 : Int32) (S : Mem) : Option (Unit × Mem) :=
if (3 : Int32) ≤ ((S 5).1 2) then
some (((), S))
else
bnd (f5_put N 6 3 ((S 5).1 2) a1 S) fun r1 S2 =>
lt_ (wr S2 5 2 (((S2 5).1 2) + (1 : Int32))) fun S3 =>
some (((), S3))
set_option maxHeartbeats 1000000 in
theorem t6_addThing_5 {E : En} {X : Cx} {Q : State → Prop} {N : Nat} {a1 : Int32} {S : Mem} {o : (Unit × Mem)} (hF : Fx E X cX6_addThing RX6 2 none 1) (h : f6_addThing_5 N a1 S = some o) (hC : Q = RQ E X (none) o.2) : J E X Q S 0 [(0, .ref (eA E 5)), (1, .int a1)] [] := by
  unfold f6_addThing_5 at h
  refine j_aload_n hF rfl 0 rfl dX6_addThing_0 ?_
  refine gf6_2 hF (by decide) (s_5 E _) rfl bw_1_66 dX6_addThing_1 ?_
  refine j_iconst (v := (3 : Int32)) hF (by decide) dX6_addThing_4 ?_
  refine j_icmp_ge (tgt := 30) hF h (by decide) dX6_addThing_5 (fun h => ?_) (fun h => ?_)
  · obtain rfl := ret1 h
    exact j_vret hF hC dX6_addThing_30
  · refine j_aload_n hF rfl 0 rfl dX6_addThing_8 ?_
    refine gf6_0 hF (by decide) (s_5 E _) rfl bw_1_64 dX6_addThing_9 ?_
    refine j_aload_n hF rfl 0 rfl dX6_addThing_12 ?_
    refine gf6_2 hF (by decide) (s_5 E _) rfl bw_1_66 dX6_addThing_13 ?_
    refine j_iload_n hF rfl 1 rfl dX6_addThing_16 ?_
    obtain ⟨r1, S2, hr1, h⟩ := bnd_some h
    refine j_callV_v (As := [.int ((S 5).1 2), .int a1]) (st := []) hF rfl mv_5_put (by decide) (s_6 E _) rfl bw_2_171 rfl (by decide) (Nat.le_of_ble_eq_true rfl) dX6_addThing_17 (c5_put (ra_6 E) hr1) ?_
    refine j_aload_n hF rfl 0 rfl dX6_addThing_20 ?_
    refine j_dup hF rfl dX6_addThing_21 ?_
    refine gf6_2 hF (by decide) (s_5 E _) rfl bw_1_66 dX6_addThing_22 ?_
    refine j_iconst (v := (1 : Int32)) hF (by decide) dX6_addThing_25 ?_
    refine j_iadd hF dX6_addThing_26 ?_
    refine pf6_2 hF (by decide) (s_5 E _) (s_5 E _) (Nat.le_of_ble_eq_true rfl) bw_1_66 dX6_addThing_27 ?_
    refine j_nmM h (fun S3 h => ?_)
    obtain rfl := ret1 h
    exact j_vret hF hC dX6_addThing_30
set_option maxHeartbeats 1000000 in
theorem c6_addThing_5 {E : En} {N : Nat} {a1 : Int32} {S So : Mem} {ro : Unit} (h : f6_addThing_5 N a1 S = some (ro, So)) : CT E yX6_addThing cX6_addThing 2 none 1 [.ref (eA E 5), .int a1] S (none) So :=
  CT_of (by decide) (Nat.le_of_ble_eq_true rfl) (fun X hF => t6_addThing_5 hF h rfl)
def f6_setOwn_5 (N : Nat) (a1 : Int32) (S : Mem) : Option (Unit × Mem) :=
lt_ (wr S 5 3 a1) fun S1 =>
some (((), S1))
set_option maxHeartbeats 1000000 in
theorem t6_setOwn_5 {E : En} {X : Cx} {Q : State → Prop} {N : Nat} {a1 : Int32} {S : Mem} {o : (Unit × Mem)} (hF : Fx E X cX6_setOwn RX6 2 none 0) (h : f6_setOwn_5 N a1 S = some o) (hC : Q = RQ E X (none) o.2) : J E X Q S 0 [(0, .ref (eA E 5)), (1, .int a1)] [] := by
  unfold f6_setOwn_5 at h
  refine j_aload_n hF rfl 0 rfl dX6_setOwn_0 ?_
  refine j_iload_n hF rfl 1 rfl dX6_setOwn_1 ?_
  refine pf6_3 hF (by decide) (s_5 E _) (s_5 E _) (Nat.le_of_ble_eq_true rfl) bw_1_67 dX6_setOwn_2 ?_
  refine j_nmM h (fun S1 h => ?_)
  obtain rfl := ret1 h
  exact j_vret hF hC dX6_setOwn_5
set_option maxHeartbeats 1000000 in
theorem c6_setOwn_5 {E : En} {N : Nat} {a1 : Int32} {S So : Mem} {ro : Unit} (h : f6_setOwn_5 N a1 S = some (ro, So)) : CT E yX6_setOwn cX6_setOwn 2 none 0 [.ref (eA E 5), .int a1] S (none) So :=
  CT_of (by decide) (Nat.le_of_ble_eq_true rfl) (fun X hF => t6_setOwn_5 hF h rfl)
def f6_setFigures_5 (N : Nat) (a1 : Int32) (S : Mem) : Option (Unit × Mem) :=
lt_ (wr S 5 4 a1) fun S1 =>
some (((), S1))
set_option maxHeartbeats 1000000 in
theorem t6_setFigures_5 {E : En} {X : Cx} {Q : State → Prop} {N : Nat} {a1 : Int32} {S : Mem} {o : (Unit × Mem)} (hF : Fx E X cX6_setFigures RX6 2 none 0) (h : f6_setFigures_5 N a1 S = some o) (hC : Q = RQ E X (none) o.2) : J E X Q S 0 [(0, .ref (eA E 5)), (1, .int a1)] [] := by
  unfold f6_setFigures_5 at h
  refine j_aload_n hF rfl 0 rfl dX6_setFigures_0 ?_
  refine j_iload_n hF rfl 1 rfl dX6_setFigures_1 ?_
  refine pf6_4 hF (by decide) (s_5 E _) (s_5 E _) (Nat.le_of_ble_eq_true rfl) bw_1_68 dX6_setFigures_2 ?_
  refine j_nmM h (fun S1 h => ?_)
  obtain rfl := ret1 h
  exact j_vret hF hC dX6_setFigures_5
set_option maxHeartbeats 1000000 in
theorem c6_setFigures_5 {E : En} {N : Nat} {a1 : Int32} {S So : Mem} {ro : Unit} (h : f6_setFigures_5 N a1 S = some (ro, So)) : CT E yX6_setFigures cX6_setFigures 2 none 0 [.ref (eA E 5), .int a1] S (none) So :=
  CT_of (by decide) (Nat.le_of_ble_eq_true rfl) (fun X hF => t6_setFigures_5 hF h rfl)
def f4_take (N : Nat) (a1 : Int32) (S : Mem) : Option (Unit × Mem) :=
if a1 = (2 : Int32) then
bnd (f6_addThing_5 N ((S 4).1 7) S) fun r1 S2 =>
some (((), S2))
else
if a1 = (3 : Int32) then
bnd (f6_setOwn_5 N ((S 4).1 7) S) fun r3 S4 =>
lt_ (wr S4 4 3 (1 : Int32)) fun S5 =>
some (((), S5))
else
bnd (f6_setFigures_5 N ((S 4).1 7) S) fun r6 S7 =>
lt_ (wr S7 4 4 (1 : Int32)) fun S8 =>
some (((), S8))
set_option maxHeartbeats 1000000 in
theorem t4_take {E : En} {X : Cx} {Q : State → Prop} {N : Nat} {a1 : Int32} {S : Mem} {o : (Unit × Mem)} (hF : Fx E X cX4_take RX4 2 none 2) (h : f4_take N a1 S = some o) (hC : Q = RQ E X (none) o.2) : J E X Q S 0 [(0, .ref (eA E 4)), (1, .int a1)] [] := by
  unfold f4_take at h
  refine j_iload_n hF rfl 1 rfl dX4_take_0 ?_
  by_cases c0 : a1 = (2 : Int32)
  · rw [if_pos c0] at h
    refine j_lswIn (tgt := 28) hF c0 (by decide) rfl (by decide) dX4_take_1 ?_
    refine j_aload_n hF rfl 0 rfl dX4_take_28 ?_
    refine gf4_1 hF (by decide) (s_4 E _) rfl bw_1_81 dX4_take_29 ?_
    refine j_aload_n hF rfl 0 rfl dX4_take_32 ?_
    refine gf4_7 hF (by decide) (s_4 E _) rfl bw_1_87 dX4_take_33 ?_
    obtain ⟨r1, S2, hr1, h⟩ := bnd_some h
    refine j_callV_v (As := [.int ((S 4).1 7)]) (st := []) hF rfl mv_6_addThing (by decide) (s_5 E _) rfl bw_2_167 rfl (by decide) (Nat.le_of_ble_eq_true rfl) dX4_take_36 (c6_addThing_5 hr1) ?_
    refine j_goto (tgt := 77) hF (by decide) dX4_take_39 ?_
    obtain rfl := ret1 h
    exact j_vret hF hC dX4_take_77
  · rw [if_neg c0] at h
    by_cases c1 : a1 = (3 : Int32)
    · rw [if_pos c1] at h
      refine j_lswIn (tgt := 42) hF c1 (by decide) rfl (by decide) dX4_take_1 ?_
      refine j_aload_n hF rfl 0 rfl dX4_take_42 ?_
      refine gf4_1 hF (by decide) (s_4 E _) rfl bw_1_81 dX4_take_43 ?_
      refine j_aload_n hF rfl 0 rfl dX4_take_46 ?_
      refine gf4_7 hF (by decide) (s_4 E _) rfl bw_1_87 dX4_take_47 ?_
      obtain ⟨r3, S4, hr3, h⟩ := bnd_some h
      refine j_callV_v (As := [.int ((S 4).1 7)]) (st := []) hF rfl mv_6_setOwn (by decide) (s_5 E _) rfl bw_2_172 rfl (by decide) (Nat.le_of_ble_eq_true rfl) dX4_take_50 (c6_setOwn_5 hr3) ?_
      refine j_aload_n hF rfl 0 rfl dX4_take_53 ?_
      refine j_iconst (v := (1 : Int32)) hF (by decide) dX4_take_54 ?_
      refine pf4_3 hF (by decide) (by decide) (by decide) (s_4 E _) (s_4 E _) (Nat.le_of_ble_eq_true rfl) bw_1_83 dX4_take_55 ?_
      refine j_nmM h (fun S5 h => ?_)
      refine j_goto (tgt := 77) hF (by decide) dX4_take_58 ?_
      obtain rfl := ret1 h
      exact j_vret hF hC dX4_take_77
    · rw [if_neg c1] at h
      have e0 : a1.toInt ≠ 2 := ne_toInt c0
      have e1 : a1.toInt ≠ 3 := ne_toInt c1
      refine j_lswIn2 (tgt := 61) (off := 60) hF (by decide) (by simp [Op.lookupswitch.offset, e0, e1, Ne.symm e0, Ne.symm e1]) (by decide) dX4_take_1 ?_
      refine j_aload_n hF rfl 0 rfl dX4_take_61 ?_
      refine gf4_1 hF (by decide) (s_4 E _) rfl bw_1_81 dX4_take_62 ?_
      refine j_aload_n hF rfl 0 rfl dX4_take_65 ?_
      refine gf4_7 hF (by decide) (s_4 E _) rfl bw_1_87 dX4_take_66 ?_
      obtain ⟨r6, S7, hr6, h⟩ := bnd_some h
      refine j_callV_v (As := [.int ((S 4).1 7)]) (st := []) hF rfl mv_6_setFigures (by decide) (s_5 E _) rfl bw_2_176 rfl (by decide) (Nat.le_of_ble_eq_true rfl) dX4_take_69 (c6_setFigures_5 hr6) ?_
      refine j_aload_n hF rfl 0 rfl dX4_take_72 ?_
      refine j_iconst (v := (1 : Int32)) hF (by decide) dX4_take_73 ?_
      refine pf4_4 hF (by decide) (by decide) (by decide) (s_4 E _) (s_4 E _) (Nat.le_of_ble_eq_true rfl) bw_1_84 dX4_take_74 ?_
      refine j_nmM h (fun S8 h => ?_)
      obtain rfl := ret1 h
      exact j_vret hF hC dX4_take_77
set_option maxHeartbeats 1000000 in
theorem c4_take {E : En} {N : Nat} {a1 : Int32} {S So : Mem} {ro : Unit} (h : f4_take N a1 S = some (ro, So)) : CT E yX4_take cX4_take 2 none 2 [.ref (eA E 4), .int a1] S (none) So :=
  CT_of (by decide) (Nat.le_of_ble_eq_true rfl) (fun X hF => t4_take hF h rfl)
def f4_read_L6 (N : Nat) (v1 : Int32) (S : Mem) : Option ((Int32 × Mem) ⊕ ((Int32 × Mem) ⊕ (Mem))) :=
if (200 : Int32) < v1 then
some (.inr (.inr (S)))
else
bnd (f4_token N S) fun r3 S4 =>
if r3 = 0 then
some (.inr (.inl (((-1 : Int32), S4))))
else
bnp (f4_mayBegin N r3 S4) fun r5 =>
if r5 = 0 then
some (.inr (.inl ((((S4 4).1 5), S4))))
else
bnd (f4_token N S4) fun r6 S7 =>
if r6 = (5 : Int32) then
bnp (f4_mayTake N r3 S7) fun r8 =>
if r8 = 0 then
some (.inr (.inl ((((S7 4).1 5), S7))))
else
bnd (f4_take N r3 S7) fun r9 S10 =>
bnd (f4_token N S10) fun r11 S12 =>
if r11 = (6 : Int32) then
lt_ (wr S12 4 2 (((S12 4).1 2) + (1 : Int32))) fun S13 =>
lt_ (v1 + (1 : Int32)) fun x14 =>
some (.inl (x14, S13))
else
some (.inr (.inl ((((S12 4).1 5), S12))))
else
some (.inr (.inl ((((S7 4).1 5), S7))))
def f4_read_b88 (N : Nat) (S : Mem) : Option (Int32 × Mem) :=
some ((((S 4).1 5), S))
def f4_read (N : Nat) (S : Mem) : Option (Int32 × Mem) :=
bnd (f4_begin N S) fun r1 S2 =>
bnp (lp N (fun s => f4_read_L6 N s.1 s.2) ((0 : Int32), S2)) fun z15 => Sum.elim (fun r => some (r)) (fun x => f4_read_b88 N x) z15
set_option maxHeartbeats 1000000 in
theorem t4_read_L6 {E : En} {X : Cx} {Q : State → Prop} {N : Nat} {v1 : Int32} {S : Mem} {o : ((Int32 × Mem) ⊕ ((Int32 × Mem) ⊕ (Mem)))} (hF : Fx E X cX4_read RX4 3 (some .int) 7) (h : f4_read_L6 N v1 S = some o) (hC : Sum.elim (fun (s : (Int32 × Mem)) => J E X Q s.2 6 [(0, .ref (eA E 4)), (1, .int s.1)] []) (Sum.elim (fun (r : (Int32 × Mem)) => Q = RQ E X (some (.int r.1)) r.2) (fun (x : (Mem)) => J E X Q x 88 [(0, .ref (eA E 4))] [])) o) : J E X Q S 6 [(0, .ref (eA E 4)), (1, .int v1)] [] := by
  unfold f4_read_L6 at h
  refine j_iload_n hF rfl 1 rfl dX4_read_6 ?_
  refine j_sipush (v := (200 : Int32)) hF (by decide) dX4_read_7 ?_
  refine j_icmp_gt (tgt := 88) hF h (by decide) dX4_read_10 (fun h => ?_) (fun h => ?_)
  · obtain rfl := ret1 h
    refine j_sub (lv' := [(0, .ref (eA E 4))]) hF [0] rfl ?_
    exact hC
  · refine j_aload_n hF rfl 0 rfl dX4_read_13 ?_
    obtain ⟨r3, S4, hr3, h⟩ := bnd_some h
    refine j_callV_i (As := []) (st := []) hF rfl mv_4_token (by decide) (s_4 E _) rfl bw_2_53 rfl (by decide) (Nat.le_of_ble_eq_true rfl) dX4_read_14 (c4_token hr3) ?_
    refine j_istore_n (lv' := [(2, .int r3), (0, .ref (eA E 4)), (1, .int v1)]) hF rfl (by decide) rfl dX4_read_17 ?_
    refine j_iload_n hF rfl 0 rfl dX4_read_18 ?_
    refine j_if_ne (tgt := 24) hF h (by decide) dX4_read_19 (fun h => ?_) (fun h => ?_)
    · refine j_aload_n hF rfl 1 rfl dX4_read_24 ?_
      refine j_iload_n hF rfl 0 rfl dX4_read_25 ?_
      obtain ⟨r5, hr5, h⟩ := bnp_some h
      refine j_callV_i (As := [.int r3]) (st := []) hF rfl mv_4_mayBegin (by decide) (s_4 E _) rfl bw_2_151 rfl (by decide) (Nat.le_of_ble_eq_true rfl) dX4_read_26 (c4_mayBegin hr5) ?_
      refine j_if_eq (tgt := 48) hF h (by decide) dX4_read_29 (fun h => ?_) (fun h => ?_)
      · refine j_aload_n hF rfl 1 rfl dX4_read_48 ?_
        refine gf4_5 hF (by decide) (s_4 E _) rfl bw_1_85 dX4_read_49 ?_
        obtain rfl := ret1 h
        exact j_iret hF hC dX4_read_52
      · refine j_aload_n hF rfl 1 rfl dX4_read_32 ?_
        obtain ⟨r6, S7, hr6, h⟩ := bnd_some h
        refine j_callV_i (As := []) (st := []) hF rfl mv_4_token (by decide) (s_4 E _) rfl bw_2_53 rfl (by decide) (Nat.le_of_ble_eq_true rfl) dX4_read_33 (c4_token hr6) ?_
        refine j_iconst (v := (5 : Int32)) hF (by decide) dX4_read_36 ?_
        refine j_icmp_ne (tgt := 48) hF h (by decide) dX4_read_37 (fun h => ?_) (fun h => ?_)
        · refine j_aload_n hF rfl 1 rfl dX4_read_48 ?_
          refine gf4_5 hF (by decide) (s_4 E _) rfl bw_1_85 dX4_read_49 ?_
          obtain rfl := ret1 h
          exact j_iret hF hC dX4_read_52
        · refine j_aload_n hF rfl 1 rfl dX4_read_40 ?_
          refine j_iload_n hF rfl 0 rfl dX4_read_41 ?_
          obtain ⟨r8, hr8, h⟩ := bnp_some h
          refine j_callV_i (As := [.int r3]) (st := []) hF rfl mv_4_mayTake (by decide) (s_4 E _) rfl bw_2_159 rfl (by decide) (Nat.le_of_ble_eq_true rfl) dX4_read_42 (c4_mayTake hr8) ?_
          refine j_if_ne (tgt := 53) hF h (by decide) dX4_read_45 (fun h => ?_) (fun h => ?_)
          · refine j_aload_n hF rfl 1 rfl dX4_read_53 ?_
            refine j_iload_n hF rfl 0 rfl dX4_read_54 ?_
            obtain ⟨r9, S10, hr9, h⟩ := bnd_some h
            refine j_callV_v (As := [.int r3]) (st := []) hF rfl mv_4_take (by decide) (s_4 E _) rfl bw_2_163 rfl (by decide) (Nat.le_of_ble_eq_true rfl) dX4_read_55 (c4_take hr9) ?_
            refine j_aload_n hF rfl 1 rfl dX4_read_58 ?_
            obtain ⟨r11, S12, hr11, h⟩ := bnd_some h
            refine j_callV_i (As := []) (st := []) hF rfl mv_4_token (by decide) (s_4 E _) rfl bw_2_53 rfl (by decide) (Nat.le_of_ble_eq_true rfl) dX4_read_59 (c4_token hr11) ?_
            refine j_bipush (v := (6 : Int32)) hF (by decide) dX4_read_62 ?_
            refine j_icmp_eq (tgt := 72) hF h (by decide) dX4_read_64 (fun h => ?_) (fun h => ?_)
            · refine j_aload_n hF rfl 1 rfl dX4_read_72 ?_
              refine j_dup hF rfl dX4_read_73 ?_
              refine gf4_2 hF (by decide) (s_4 E _) rfl bw_1_82 dX4_read_74 ?_
              refine j_iconst (v := (1 : Int32)) hF (by decide) dX4_read_77 ?_
              refine j_iadd hF dX4_read_78 ?_
              refine pf4_2 hF (by decide) (s_4 E _) (s_4 E _) (Nat.le_of_ble_eq_true rfl) bw_1_82 dX4_read_79 ?_
              refine j_nmM h (fun S13 h => ?_)
              refine j_iinc (v := (v1 + (1 : Int32))) (lv' := [(1, .int (v1 + (1 : Int32))), (2, .int r3), (0, .ref (eA E 4))]) (q := 2) hF rfl (congrArg (fun z => v1 + z) (by decide)) (by decide) rfl dX4_read_82 ?_
              refine j_nmL h (fun x14 h => ?_)
              refine j_goto (tgt := 6) hF (by decide) dX4_read_85 ?_
              obtain rfl := ret1 h
              refine j_sub (lv' := [(0, .ref (eA E 4)), (1, .int x14)]) hF [2, 0] rfl ?_
              exact hC
            · refine j_aload_n hF rfl 1 rfl dX4_read_67 ?_
              refine gf4_5 hF (by decide) (s_4 E _) rfl bw_1_85 dX4_read_68 ?_
              obtain rfl := ret1 h
              exact j_iret hF hC dX4_read_71
          · refine j_aload_n hF rfl 1 rfl dX4_read_48 ?_
            refine gf4_5 hF (by decide) (s_4 E _) rfl bw_1_85 dX4_read_49 ?_
            obtain rfl := ret1 h
            exact j_iret hF hC dX4_read_52
    · refine j_iconst (v := (-1 : Int32)) hF (by decide) dX4_read_22 ?_
      obtain rfl := ret1 h
      exact j_iret hF hC dX4_read_23
set_option maxHeartbeats 1000000 in
theorem t4_read_b88 {E : En} {X : Cx} {Q : State → Prop} {N : Nat} {S : Mem} {o : (Int32 × Mem)} (hF : Fx E X cX4_read RX4 3 (some .int) 7) (h : f4_read_b88 N S = some o) (hC : Q = RQ E X (some (.int o.1)) o.2) : J E X Q S 88 [(0, .ref (eA E 4))] [] := by
  unfold f4_read_b88 at h
  refine j_aload_n hF rfl 0 rfl dX4_read_88 ?_
  refine gf4_5 hF (by decide) (s_4 E _) rfl bw_1_85 dX4_read_89 ?_
  obtain rfl := ret1 h
  exact j_iret hF hC dX4_read_92
set_option maxHeartbeats 1000000 in
theorem t4_read {E : En} {X : Cx} {Q : State → Prop} {N : Nat} {S : Mem} {o : (Int32 × Mem)} (hF : Fx E X cX4_read RX4 3 (some .int) 7) (h : f4_read N S = some o) (hC : Q = RQ E X (some (.int o.1)) o.2) : J E X Q S 0 [(0, .ref (eA E 4))] [] := by
  unfold f4_read at h
  refine j_aload_n hF rfl 0 rfl dX4_read_0 ?_
  obtain ⟨r1, S2, hr1, h⟩ := bnd_some h
  refine j_callV_v (As := []) (st := []) hF rfl mv_4_begin (by decide) (s_4 E _) rfl bw_2_45 rfl (by decide) (Nat.le_of_ble_eq_true rfl) dX4_read_1 (c4_begin hr1) ?_
  refine j_iconst (v := (0 : Int32)) hF (by decide) dX4_read_4 ?_
  refine j_istore_n (lv' := [(1, .int (0 : Int32)), (0, .ref (eA E 4))]) hF rfl (by decide) rfl dX4_read_5 ?_
  obtain ⟨z15, hz15, h⟩ := bnp_some h
  refine j_sub (lv' := [(0, .ref (eA E 4)), (1, .int (0 : Int32))]) hF [1, 0] rfl ?_
  have hx : (Sum.elim (fun (r : (Int32 × Mem)) => Q = RQ E X (some (.int r.1)) r.2) (fun (x : (Mem)) => J E X Q x 88 [(0, .ref (eA E 4))] [])) z15 := by
    cases z15 with
    | inl rr =>
      have h : some (rr) = some o := h
      obtain rfl := ret1 h
      exact hC
    | inr x =>
      have h : f4_read_b88 N x = some o := h
      exact t4_read_b88 hF h hC
  exact lp_rule (Jh := fun (s : (Int32 × Mem)) => J E X Q s.2 6 [(0, .ref (eA E 4)), (1, .int s.1)] []) (C := Sum.elim (fun (r : (Int32 × Mem)) => Q = RQ E X (some (.int r.1)) r.2) (fun (x : (Mem)) => J E X Q x 88 [(0, .ref (eA E 4))] [])) (fun s o h hC => t4_read_L6 hF h hC) N ((0 : Int32), S2) z15 hz15 hx
set_option maxHeartbeats 1000000 in
theorem c4_read {E : En} {N : Nat} {S So : Mem} {ro : Int32} (h : f4_read N S = some (ro, So)) : CT E yX4_read cX4_read 3 (some .int) 7 [.ref (eA E 4)] S (some (.int ro)) So :=
  CT_of (by decide) (Nat.le_of_ble_eq_true rfl) (fun X hF => t4_read hF h rfl)
def f4_told (N : Nat) (S : Mem) : Option Unit :=
some (())
set_option maxHeartbeats 1000000 in
theorem t4_told {E : En} {X : Cx} {Q : State → Prop} {N : Nat} {S : Mem} {o : Unit} (hF : Fx E X cX4_told RX4 1 (some (.object "SelfScale$Scale")) 0) (h : f4_told N S = some o) (hC : Q = RQ E X (some (.ref (eA E 5))) S) : J E X Q S 0 [(0, .ref (eA E 4))] [] := by
  unfold f4_told at h
  refine j_aload_n hF rfl 0 rfl dX4_told_0 ?_
  refine gf4_1 hF (by decide) (s_4 E _) rfl bw_1_81 dX4_told_1 ?_
  obtain rfl := ret1 h
  exact j_aret hF hC dX4_told_4
set_option maxHeartbeats 1000000 in
theorem c4_told {E : En} {N : Nat} {S : Mem} {ro : Unit} (h : f4_told N S = some ro) : CT E yX4_told cX4_told 1 (some (.object "SelfScale$Scale")) 0 [.ref (eA E 4)] S (some (.ref (eA E 5))) S :=
  CT_of (by decide) (Nat.le_of_ble_eq_true rfl) (fun X hF => t4_told hF h rfl)
def f5_copyFrom_L2 (N : Nat) (k n : Nat) (k2 n2 : Nat) (v2 : Int32) (S : Mem) : Option ((Int32 × Mem) ⊕ (Mem)) :=
if (nI n) ≤ v2 then
some (.inr (S))
else
bnp (f5_get N k2 n2 v2 S) fun r1 =>
if v2 < 0 ∨ n ≤ v2.toNatClampNeg then none else
lt_ (wr S (k + 1) v2.toNatClampNeg r1) fun S2 =>
lt_ (v2 + (1 : Int32)) fun x3 =>
some (.inl (x3, S2))
def f5_copyFrom_b28 (N : Nat) (k n : Nat) (k2 n2 : Nat) (S : Mem) : Option (Unit × Mem) :=
some (((), S))
def f5_copyFrom (N : Nat) (k n : Nat) (k2 n2 : Nat) (S : Mem) : Option (Unit × Mem) :=
bnp (lp N (fun s => f5_copyFrom_L2 N k n k2 n2 s.1 s.2) ((0 : Int32), S)) fun z4 =>
f5_copyFrom_b28 N k n k2 n2 z4
set_option maxHeartbeats 1000000 in
theorem t5_copyFrom_L2 {E : En} {X : Cx} {Q : State → Prop} {N : Nat} {k n : Nat} {k2 n2 : Nat} {v2 : Int32} {S : Mem} {o : ((Int32 × Mem) ⊕ (Mem))} (hr : RowAt E k n) (hr2 : RowAt E k2 n2) (hF : Fx E X cX5_copyFrom RX5 3 none 1) (h : f5_copyFrom_L2 N k n k2 n2 v2 S = some o) (hC : Sum.elim (fun (s : (Int32 × Mem)) => J E X Q s.2 2 [(0, .ref (eA E k)), (1, .ref (eA E k2)), (2, .int s.1)] []) (fun (x : (Mem)) => J E X Q x 28 [] []) o) : J E X Q S 2 [(0, .ref (eA E k)), (1, .ref (eA E k2)), (2, .int v2)] [] := by
  unfold f5_copyFrom_L2 at h
  refine j_iload_n hF rfl 2 rfl dX5_copyFrom_2 ?_
  refine j_aload_n hF rfl 0 rfl dX5_copyFrom_3 ?_
  refine gf5_0 hF (rk0 hr) (hr.2.1 _) rfl bw_1_38 dX5_copyFrom_4 ?_
  refine j_alen (t0 := 0) hF (rk1 hr) (hr.2.2 _) rfl rfl dX5_copyFrom_7 ?_
  refine j_icmp_ge (tgt := 28) hF h (by decide) dX5_copyFrom_8 (fun h => ?_) (fun h => ?_)
  · obtain rfl := ret1 h
    refine j_sub (lv' := []) hF [] rfl ?_
    exact hC
  · refine j_aload_n hF rfl 0 rfl dX5_copyFrom_11 ?_
    refine gf5_0 hF (rk0 hr) (hr.2.1 _) rfl bw_1_38 dX5_copyFrom_12 ?_
    refine j_iload_n hF rfl 2 rfl dX5_copyFrom_15 ?_
    refine j_aload_n hF rfl 1 rfl dX5_copyFrom_16 ?_
    refine j_iload_n hF rfl 2 rfl dX5_copyFrom_17 ?_
    obtain ⟨r1, hr1, h⟩ := bnp_some h
    refine j_callV_i (As := [.int v2]) (st := [.int v2, .ref (eA E (k + 1))]) hF rfl mv_5_get (rk0 hr2) (hr2.2.1 _) rfl bw_2_192 rfl (by decide) (Nat.le_of_ble_eq_true rfl) dX5_copyFrom_18 (c5_get hr2 hr1) ?_
    refine j_iast hF (rk1 hr) hr.2.2 h dX5_copyFrom_21 (fun h => ?_)
    refine j_nmM h (fun S2 h => ?_)
    refine j_iinc (v := (v2 + (1 : Int32))) (lv' := [(2, .int (v2 + (1 : Int32))), (0, .ref (eA E k)), (1, .ref (eA E k2))]) (q := 2) hF rfl (congrArg (fun z => v2 + z) (by decide)) (by decide) rfl dX5_copyFrom_22 ?_
    refine j_nmL h (fun x3 h => ?_)
    refine j_goto (tgt := 2) hF (by decide) dX5_copyFrom_25 ?_
    obtain rfl := ret1 h
    refine j_sub (lv' := [(0, .ref (eA E k)), (1, .ref (eA E k2)), (2, .int x3)]) hF [1, 2, 0] rfl ?_
    exact hC
set_option maxHeartbeats 1000000 in
theorem t5_copyFrom_b28 {E : En} {X : Cx} {Q : State → Prop} {N : Nat} {k n : Nat} {k2 n2 : Nat} {S : Mem} {o : (Unit × Mem)} (hr : RowAt E k n) (hr2 : RowAt E k2 n2) (hF : Fx E X cX5_copyFrom RX5 3 none 1) (h : f5_copyFrom_b28 N k n k2 n2 S = some o) (hC : Q = RQ E X (none) o.2) : J E X Q S 28 [] [] := by
  unfold f5_copyFrom_b28 at h
  obtain rfl := ret1 h
  exact j_vret hF hC dX5_copyFrom_28
set_option maxHeartbeats 1000000 in
theorem t5_copyFrom {E : En} {X : Cx} {Q : State → Prop} {N : Nat} {k n : Nat} {k2 n2 : Nat} {S : Mem} {o : (Unit × Mem)} (hr : RowAt E k n) (hr2 : RowAt E k2 n2) (hF : Fx E X cX5_copyFrom RX5 3 none 1) (h : f5_copyFrom N k n k2 n2 S = some o) (hC : Q = RQ E X (none) o.2) : J E X Q S 0 [(0, .ref (eA E k)), (1, .ref (eA E k2))] [] := by
  unfold f5_copyFrom at h
  refine j_iconst (v := (0 : Int32)) hF (by decide) dX5_copyFrom_0 ?_
  refine j_istore_n (lv' := [(2, .int (0 : Int32)), (0, .ref (eA E k)), (1, .ref (eA E k2))]) hF rfl (by decide) rfl dX5_copyFrom_1 ?_
  obtain ⟨z4, hz4, h⟩ := bnp_some h
  refine j_sub (lv' := [(0, .ref (eA E k)), (1, .ref (eA E k2)), (2, .int (0 : Int32))]) hF [1, 2, 0] rfl ?_
  have hx : (fun (x : (Mem)) => J E X Q x 28 [] []) z4 := by
    exact t5_copyFrom_b28 hr hr2 hF h hC
  exact lp_rule (Jh := fun (s : (Int32 × Mem)) => J E X Q s.2 2 [(0, .ref (eA E k)), (1, .ref (eA E k2)), (2, .int s.1)] []) (C := fun (x : (Mem)) => J E X Q x 28 [] []) (fun s o h hC => t5_copyFrom_L2 hr hr2 hF h hC) N ((0 : Int32), S) z4 hz4 hx
set_option maxHeartbeats 1000000 in
theorem c5_copyFrom {E : En} {N : Nat} {k n : Nat} {k2 n2 : Nat} {S So : Mem} {ro : Unit} (hr : RowAt E k n) (hr2 : RowAt E k2 n2) (h : f5_copyFrom N k n k2 n2 S = some (ro, So)) : CT E yX5_copyFrom cX5_copyFrom 3 none 1 [.ref (eA E k), .ref (eA E k2)] S (none) So :=
  CT_of (by decide) (Nat.le_of_ble_eq_true rfl) (fun X hF => t5_copyFrom hr hr2 hF h rfl)
def f6_copyFrom_10_5 (N : Nat) (S : Mem) : Option (Unit × Mem) :=
bnd (f5_copyFrom N 11 3 6 3 S) fun r1 S2 =>
lt_ (wr S2 10 2 ((S2 5).1 2)) fun S3 =>
lt_ (wr S3 10 3 ((S3 5).1 3)) fun S4 =>
lt_ (wr S4 10 4 ((S4 5).1 4)) fun S5 =>
some (((), S5))
set_option maxHeartbeats 1000000 in
theorem t6_copyFrom_10_5 {E : En} {X : Cx} {Q : State → Prop} {N : Nat} {S : Mem} {o : (Unit × Mem)} (hF : Fx E X cX6_copyFrom RX6 2 none 2) (h : f6_copyFrom_10_5 N S = some o) (hC : Q = RQ E X (none) o.2) : J E X Q S 0 [(0, .ref (eA E 10)), (1, .ref (eA E 5))] [] := by
  unfold f6_copyFrom_10_5 at h
  refine j_aload_n hF rfl 0 rfl dX6_copyFrom_0 ?_
  refine gf6_0 hF (by decide) (s_10 E _) rfl bw_1_64 dX6_copyFrom_1 ?_
  refine j_aload_n hF rfl 1 rfl dX6_copyFrom_4 ?_
  refine gf6_0 hF (by decide) (s_5 E _) rfl bw_1_64 dX6_copyFrom_5 ?_
  obtain ⟨r1, S2, hr1, h⟩ := bnd_some h
  refine j_callV_v (As := [.ref (eA E 6)]) (st := []) hF rfl mv_5_copyFrom (by decide) (s_11 E _) rfl bw_2_188 rfl (by decide) (Nat.le_of_ble_eq_true rfl) dX6_copyFrom_8 (c5_copyFrom (ra_11 E) (ra_6 E) hr1) ?_
  refine j_aload_n hF rfl 0 rfl dX6_copyFrom_11 ?_
  refine j_aload_n hF rfl 1 rfl dX6_copyFrom_12 ?_
  refine gf6_2 hF (by decide) (s_5 E _) rfl bw_1_66 dX6_copyFrom_13 ?_
  refine pf6_2 hF (by decide) (s_10 E _) (s_10 E _) (Nat.le_of_ble_eq_true rfl) bw_1_66 dX6_copyFrom_16 ?_
  refine j_nmM h (fun S3 h => ?_)
  refine j_aload_n hF rfl 0 rfl dX6_copyFrom_19 ?_
  refine j_aload_n hF rfl 1 rfl dX6_copyFrom_20 ?_
  refine gf6_3 hF (by decide) (s_5 E _) rfl bw_1_67 dX6_copyFrom_21 ?_
  refine pf6_3 hF (by decide) (s_10 E _) (s_10 E _) (Nat.le_of_ble_eq_true rfl) bw_1_67 dX6_copyFrom_24 ?_
  refine j_nmM h (fun S4 h => ?_)
  refine j_aload_n hF rfl 0 rfl dX6_copyFrom_27 ?_
  refine j_aload_n hF rfl 1 rfl dX6_copyFrom_28 ?_
  refine gf6_4 hF (by decide) (s_5 E _) rfl bw_1_68 dX6_copyFrom_29 ?_
  refine pf6_4 hF (by decide) (s_10 E _) (s_10 E _) (Nat.le_of_ble_eq_true rfl) bw_1_68 dX6_copyFrom_32 ?_
  refine j_nmM h (fun S5 h => ?_)
  obtain rfl := ret1 h
  exact j_vret hF hC dX6_copyFrom_35
set_option maxHeartbeats 1000000 in
theorem c6_copyFrom_10_5 {E : En} {N : Nat} {S So : Mem} {ro : Unit} (h : f6_copyFrom_10_5 N S = some (ro, So)) : CT E yX6_copyFrom cX6_copyFrom 2 none 2 [.ref (eA E 10), .ref (eA E 5)] S (none) So :=
  CT_of (by decide) (Nat.le_of_ble_eq_true rfl) (fun X hF => t6_copyFrom_10_5 hF h rfl)
def f0_wipe_15 (N : Nat) (S : Mem) : Option (Unit × Mem) :=
lt_ (wr S 15 3 (0 : Int32)) fun S1 =>
some (((), S1))
set_option maxHeartbeats 1000000 in
theorem t0_wipe_15 {E : En} {X : Cx} {Q : State → Prop} {N : Nat} {S : Mem} {o : (Unit × Mem)} (hF : Fx E X cX0_wipe RX0 1 none 0) (h : f0_wipe_15 N S = some o) (hC : Q = RQ E X (none) o.2) : J E X Q S 0 [(0, .ref (eA E 15))] [] := by
  unfold f0_wipe_15 at h
  refine j_aload_n hF rfl 0 rfl dX0_wipe_0 ?_
  refine j_iconst (v := (0 : Int32)) hF (by decide) dX0_wipe_1 ?_
  refine pf0_3 hF (by decide) (s_15 E _) (s_15 E _) (Nat.le_of_ble_eq_true rfl) bw_1_118 dX0_wipe_2 ?_
  refine j_nmM h (fun S1 h => ?_)
  obtain rfl := ret1 h
  exact j_vret hF hC dX0_wipe_5
set_option maxHeartbeats 1000000 in
theorem c0_wipe_15 {E : En} {N : Nat} {S So : Mem} {ro : Unit} (h : f0_wipe_15 N S = some (ro, So)) : CT E yX0_wipe cX0_wipe 1 none 0 [.ref (eA E 15)] S (none) So :=
  CT_of (by decide) (Nat.le_of_ble_eq_true rfl) (fun X hF => t0_wipe_15 hF h rfl)
def f1_drop_22 (N : Nat) (S : Mem) : Option (Unit × Mem) :=
lt_ (wr S 22 1 (0 : Int32)) fun S1 =>
some (((), S1))
set_option maxHeartbeats 1000000 in
theorem t1_drop_22 {E : En} {X : Cx} {Q : State → Prop} {N : Nat} {S : Mem} {o : (Unit × Mem)} (hF : Fx E X cX1_drop RX1 1 none 0) (h : f1_drop_22 N S = some o) (hC : Q = RQ E X (none) o.2) : J E X Q S 0 [(0, .ref (eA E 22))] [] := by
  unfold f1_drop_22 at h
  refine j_aload_n hF rfl 0 rfl dX1_drop_0 ?_
  refine j_iconst (v := (0 : Int32)) hF (by decide) dX1_drop_1 ?_
  refine pf1_1 hF (by decide) (by decide) (by decide) (s_22 E _) (s_22 E _) (Nat.le_of_ble_eq_true rfl) bw_1_137 dX1_drop_2 ?_
  refine j_nmM h (fun S1 h => ?_)
  obtain rfl := ret1 h
  exact j_vret hF hC dX1_drop_5
set_option maxHeartbeats 1000000 in
theorem c1_drop_22 {E : En} {N : Nat} {S So : Mem} {ro : Unit} (h : f1_drop_22 N S = some (ro, So)) : CT E yX1_drop cX1_drop 1 none 0 [.ref (eA E 22)] S (none) So :=
  CT_of (by decide) (Nat.le_of_ble_eq_true rfl) (fun X hF => t1_drop_22 hF h rfl)
def f1_drop_30 (N : Nat) (S : Mem) : Option (Unit × Mem) :=
lt_ (wr S 30 1 (0 : Int32)) fun S1 =>
some (((), S1))
set_option maxHeartbeats 1000000 in
theorem t1_drop_30 {E : En} {X : Cx} {Q : State → Prop} {N : Nat} {S : Mem} {o : (Unit × Mem)} (hF : Fx E X cX1_drop RX1 1 none 0) (h : f1_drop_30 N S = some o) (hC : Q = RQ E X (none) o.2) : J E X Q S 0 [(0, .ref (eA E 30))] [] := by
  unfold f1_drop_30 at h
  refine j_aload_n hF rfl 0 rfl dX1_drop_0 ?_
  refine j_iconst (v := (0 : Int32)) hF (by decide) dX1_drop_1 ?_
  refine pf1_1 hF (by decide) (by decide) (by decide) (s_30 E _) (s_30 E _) (Nat.le_of_ble_eq_true rfl) bw_1_137 dX1_drop_2 ?_
  refine j_nmM h (fun S1 h => ?_)
  obtain rfl := ret1 h
  exact j_vret hF hC dX1_drop_5
set_option maxHeartbeats 1000000 in
theorem c1_drop_30 {E : En} {N : Nat} {S So : Mem} {ro : Unit} (h : f1_drop_30 N S = some (ro, So)) : CT E yX1_drop cX1_drop 1 none 0 [.ref (eA E 30)] S (none) So :=
  CT_of (by decide) (Nat.le_of_ble_eq_true rfl) (fun X hF => t1_drop_30 hF h rfl)
def f8_forget (N : Nat) (S : Mem) : Option (Unit × Mem) :=
lt_ (wr S 39 7 (0 : Int32)) fun S1 =>
some (((), S1))
set_option maxHeartbeats 1000000 in
theorem t8_forget {E : En} {X : Cx} {Q : State → Prop} {N : Nat} {S : Mem} {o : (Unit × Mem)} (hF : Fx E X cX8_forget RX8 1 none 0) (h : f8_forget N S = some o) (hC : Q = RQ E X (none) o.2) : J E X Q S 0 [(0, .ref (eA E 39))] [] := by
  unfold f8_forget at h
  refine j_aload_n hF rfl 0 rfl dX8_forget_0 ?_
  refine j_iconst (v := (0 : Int32)) hF (by decide) dX8_forget_1 ?_
  refine pf8_7 hF (by decide) (by decide) (by decide) (s_39 E _) (s_39 E _) (Nat.le_of_ble_eq_true rfl) bw_1_174 dX8_forget_2 ?_
  refine j_nmM h (fun S1 h => ?_)
  obtain rfl := ret1 h
  exact j_vret hF hC dX8_forget_5
set_option maxHeartbeats 1000000 in
theorem c8_forget {E : En} {N : Nat} {S So : Mem} {ro : Unit} (h : f8_forget N S = some (ro, So)) : CT E yX8_forget cX8_forget 1 none 0 [.ref (eA E 39)] S (none) So :=
  CT_of (by decide) (Nat.le_of_ble_eq_true rfl) (fun X hF => t8_forget hF h rfl)
def f4_items (N : Nat) (S : Mem) : Option Int32 :=
some (((S 4).1 2))
set_option maxHeartbeats 1000000 in
theorem t4_items {E : En} {X : Cx} {Q : State → Prop} {N : Nat} {S : Mem} {o : Int32} (hF : Fx E X cX4_items RX4 1 (some .int) 0) (h : f4_items N S = some o) (hC : Q = RQ E X (some (.int o)) S) : J E X Q S 0 [(0, .ref (eA E 4))] [] := by
  unfold f4_items at h
  refine j_aload_n hF rfl 0 rfl dX4_items_0 ?_
  refine gf4_2 hF (by decide) (s_4 E _) rfl bw_1_82 dX4_items_1 ?_
  obtain rfl := ret1 h
  exact j_iret hF hC dX4_items_4
set_option maxHeartbeats 1000000 in
theorem c4_items {E : En} {N : Nat} {S : Mem} {ro : Int32} (h : f4_items N S = some ro) : CT E yX4_items cX4_items 1 (some .int) 0 [.ref (eA E 4)] S (some (.int ro)) S :=
  CT_of (by decide) (Nat.le_of_ble_eq_true rfl) (fun X hF => t4_items hF h rfl)
def f9_market (N : Nat) (S : Mem) : Option (Int32 × Mem) :=
bnd (f4_read N S) fun r1 S2 =>
if r1 < 0 then
bnp (f4_told N S2) fun r3 =>
bnd (f6_copyFrom_10_5 N S2) fun r4 S5 =>
bnd (f0_wipe_15 N S5) fun r6 S7 =>
bnd (f1_drop_22 N S7) fun r8 S9 =>
bnd (f1_drop_30 N S9) fun r10 S11 =>
bnd (f7_wipe N S11) fun r12 S13 =>
bnd (f8_forget N S13) fun r14 S15 =>
bnp (f4_items N S15) fun r16 =>
some ((r16, S15))
else
some ((((-10 : Int32) - r1), S2))
set_option maxHeartbeats 1000000 in
theorem t9_market {E : En} {X : Cx} {Q : State → Prop} {N : Nat} {S : Mem} {o : (Int32 × Mem)} (hF : Fx E X cX9_market RX9 2 (some .int) 8) (h : f9_market N S = some o) (hC : Q = RQ E X (some (.int o.1)) o.2) : J E X Q S 0 [(0, .ref (eA E 0))] [] := by
  unfold f9_market at h
  refine j_aload_n hF rfl 0 rfl dX9_market_0 ?_
  refine gf9_1 hF (by decide) (s_0 E _) rfl bw_1_226 dX9_market_1 ?_
  obtain ⟨r1, S2, hr1, h⟩ := bnd_some h
  refine j_callV_i (As := []) (st := []) hF rfl mv_4_read (by decide) (s_4 E _) rfl bw_2_41 rfl (by decide) (Nat.le_of_ble_eq_true rfl) dX9_market_4 (c4_read hr1) ?_
  refine j_istore_n (lv' := [(1, .int r1), (0, .ref (eA E 0))]) hF rfl (by decide) rfl dX9_market_7 ?_
  refine j_iload_n hF rfl 0 rfl dX9_market_8 ?_
  refine j_if_lt (tgt := 17) hF h (by decide) dX9_market_9 (fun h => ?_) (fun h => ?_)
  · refine j_aload_n hF rfl 1 rfl dX9_market_17 ?_
    refine gf9_2 hF (by decide) (s_0 E _) rfl bw_1_227 dX9_market_18 ?_
    refine j_aload_n hF rfl 1 rfl dX9_market_21 ?_
    refine gf9_1 hF (by decide) (s_0 E _) rfl bw_1_226 dX9_market_22 ?_
    obtain ⟨r3, hr3, h⟩ := bnp_some h
    refine j_callV_r (As := []) (st := [.ref (eA E 10)]) hF rfl mv_4_told (by decide) (s_4 E _) rfl bw_2_180 rfl (by decide) (Nat.le_of_ble_eq_true rfl) dX9_market_25 (c4_told hr3) ?_
    obtain ⟨r4, S5, hr4, h⟩ := bnd_some h
    refine j_callV_v (As := [.ref (eA E 5)]) (st := []) hF rfl mv_6_copyFrom (by decide) (s_10 E _) rfl bw_2_184 rfl (by decide) (Nat.le_of_ble_eq_true rfl) dX9_market_28 (c6_copyFrom_10_5 hr4) ?_
    refine j_aload_n hF rfl 1 rfl dX9_market_31 ?_
    refine gf9_3 hF (by decide) (s_0 E _) rfl bw_1_228 dX9_market_32 ?_
    obtain ⟨r6, S7, hr6, h⟩ := bnd_some h
    refine j_callV_v (As := []) (st := []) hF rfl mv_0_wipe (by decide) (s_15 E _) rfl bw_2_193 rfl (by decide) (Nat.le_of_ble_eq_true rfl) dX9_market_35 (c0_wipe_15 hr6) ?_
    refine j_aload_n hF rfl 1 rfl dX9_market_38 ?_
    refine gf9_4 hF (by decide) (s_0 E _) rfl bw_1_229 dX9_market_39 ?_
    obtain ⟨r8, S9, hr8, h⟩ := bnd_some h
    refine j_callV_v (As := []) (st := []) hF rfl mv_1_drop (by decide) (s_22 E _) rfl bw_2_197 rfl (by decide) (Nat.le_of_ble_eq_true rfl) dX9_market_42 (c1_drop_22 hr8) ?_
    refine j_aload_n hF rfl 1 rfl dX9_market_45 ?_
    refine gf9_5 hF (by decide) (s_0 E _) rfl bw_1_230 dX9_market_46 ?_
    obtain ⟨r10, S11, hr10, h⟩ := bnd_some h
    refine j_callV_v (As := []) (st := []) hF rfl mv_1_drop (by decide) (s_30 E _) rfl bw_2_197 rfl (by decide) (Nat.le_of_ble_eq_true rfl) dX9_market_49 (c1_drop_30 hr10) ?_
    refine j_aload_n hF rfl 1 rfl dX9_market_52 ?_
    refine gf9_0 hF (by decide) (s_0 E _) rfl bw_1_225 dX9_market_53 ?_
    obtain ⟨r12, S13, hr12, h⟩ := bnd_some h
    refine j_callV_v (As := []) (st := []) hF rfl mv_7_wipe (by decide) (s_1 E _) rfl bw_2_33 rfl (by decide) (Nat.le_of_ble_eq_true rfl) dX9_market_56 (c7_wipe hr12) ?_
    refine j_aload_n hF rfl 1 rfl dX9_market_59 ?_
    refine gf9_7 hF (by decide) (s_0 E _) rfl bw_1_232 dX9_market_60 ?_
    obtain ⟨r14, S15, hr14, h⟩ := bnd_some h
    refine j_callV_v (As := []) (st := []) hF rfl mv_8_forget (by decide) (s_39 E _) rfl bw_2_201 rfl (by decide) (Nat.le_of_ble_eq_true rfl) dX9_market_63 (c8_forget hr14) ?_
    refine j_aload_n hF rfl 1 rfl dX9_market_66 ?_
    refine gf9_1 hF (by decide) (s_0 E _) rfl bw_1_226 dX9_market_67 ?_
    obtain ⟨r16, hr16, h⟩ := bnp_some h
    refine j_callV_i (As := []) (st := []) hF rfl mv_4_items (by decide) (s_4 E _) rfl bw_2_205 rfl (by decide) (Nat.le_of_ble_eq_true rfl) dX9_market_70 (c4_items hr16) ?_
    obtain rfl := ret1 h
    exact j_iret hF hC dX9_market_73
  · refine j_bipush (v := (-10 : Int32)) hF (by decide) dX9_market_12 ?_
    refine j_iload_n hF rfl 0 rfl dX9_market_14 ?_
    refine j_isub hF dX9_market_15 ?_
    obtain rfl := ret1 h
    exact j_iret hF hC dX9_market_16
set_option maxHeartbeats 1000000 in
theorem c9_market {E : En} {N : Nat} {S So : Mem} {ro : Int32} (h : f9_market N S = some (ro, So)) : CT E yX9_market cX9_market 2 (some .int) 8 [.ref (eA E 0)] S (some (.int ro)) So :=
  CT_of (by decide) (Nat.le_of_ble_eq_true rfl) (fun X hF => t9_market hF h rfl)
def f6_things_10 (N : Nat) (S : Mem) : Option Int32 :=
some (((S 10).1 2))
set_option maxHeartbeats 1000000 in
theorem t6_things_10 {E : En} {X : Cx} {Q : State → Prop} {N : Nat} {S : Mem} {o : Int32} (hF : Fx E X cX6_things RX6 1 (some .int) 0) (h : f6_things_10 N S = some o) (hC : Q = RQ E X (some (.int o)) S) : J E X Q S 0 [(0, .ref (eA E 10))] [] := by
  unfold f6_things_10 at h
  refine j_aload_n hF rfl 0 rfl dX6_things_0 ?_
  refine gf6_2 hF (by decide) (s_10 E _) rfl bw_1_66 dX6_things_1 ?_
  obtain rfl := ret1 h
  exact j_iret hF hC dX6_things_4
set_option maxHeartbeats 1000000 in
theorem c6_things_10 {E : En} {N : Nat} {S : Mem} {ro : Int32} (h : f6_things_10 N S = some ro) : CT E yX6_things cX6_things 1 (some .int) 0 [.ref (eA E 10)] S (some (.int ro)) S :=
  CT_of (by decide) (Nat.le_of_ble_eq_true rfl) (fun X hF => t6_things_10 hF h rfl)
def f9_isItem_b22 (N : Nat) (S : Mem) : Option Int32 :=
some ((1 : Int32))
def f9_isItem (N : Nat) (a1 : Int32) (S : Mem) : Option Int32 :=
if a1 = (3 : Int32) then
f9_isItem_b22 N S
else
bnp (f6_things_10 N S) fun r1 =>
bnp (f9_isBetween N a1 (0 : Int32) (r1 - (1 : Int32)) S) fun r2 =>
if r2 = 0 then
some ((0 : Int32))
else
f9_isItem_b22 N S
set_option maxHeartbeats 1000000 in
theorem t9_isItem_b22 {E : En} {X : Cx} {Q : State → Prop} {N : Nat} {S : Mem} {o : Int32} (hF : Fx E X cX9_isItem RX9 2 (some .boolean) 1) (h : f9_isItem_b22 N S = some o) (hC : Q = RQ E X (some (.int o)) S) : J E X Q S 22 [] [] := by
  unfold f9_isItem_b22 at h
  refine j_iconst (v := (1 : Int32)) hF (by decide) dX9_isItem_22 ?_
  refine j_goto (tgt := 27) hF (by decide) dX9_isItem_23 ?_
  obtain rfl := ret1 h
  exact j_ret_boolean hF (by decide) hC dX9_isItem_27
set_option maxHeartbeats 1000000 in
theorem t9_isItem {E : En} {X : Cx} {Q : State → Prop} {N : Nat} {a1 : Int32} {S : Mem} {o : Int32} (hF : Fx E X cX9_isItem RX9 2 (some .boolean) 1) (h : f9_isItem N a1 S = some o) (hC : Q = RQ E X (some (.int o)) S) : J E X Q S 0 [(0, .ref (eA E 0)), (1, .int a1)] [] := by
  unfold f9_isItem at h
  refine j_iload_n hF rfl 1 rfl dX9_isItem_0 ?_
  refine j_iconst (v := (3 : Int32)) hF (by decide) dX9_isItem_1 ?_
  refine j_icmp_eq (tgt := 22) hF h (by decide) dX9_isItem_2 (fun h => ?_) (fun h => ?_)
  · refine j_sub (lv' := []) hF [] rfl ?_
    exact t9_isItem_b22 hF h hC
  · refine j_iload_n hF rfl 1 rfl dX9_isItem_5 ?_
    refine j_iconst (v := (0 : Int32)) hF (by decide) dX9_isItem_6 ?_
    refine j_aload_n hF rfl 0 rfl dX9_isItem_7 ?_
    refine gf9_2 hF (by decide) (s_0 E _) rfl bw_1_227 dX9_isItem_8 ?_
    obtain ⟨r1, hr1, h⟩ := bnp_some h
    refine j_callV_i (As := []) (st := [.int (0 : Int32), .int a1]) hF rfl mv_6_things (by decide) (s_10 E _) rfl bw_2_218 rfl (by decide) (Nat.le_of_ble_eq_true rfl) dX9_isItem_11 (c6_things_10 hr1) ?_
    refine j_iconst (v := (1 : Int32)) hF (by decide) dX9_isItem_14 ?_
    refine j_isub hF dX9_isItem_15 ?_
    obtain ⟨r2, hr2, h⟩ := bnp_some h
    refine j_callS_i (As := [.int a1, .int (0 : Int32), .int (r1 - (1 : Int32))]) (st := []) hF rfl mv_9_isBetween bw_2_219 rfl (by decide) (Nat.le_of_ble_eq_true rfl) dX9_isItem_16 (c9_isBetween hr2) ?_
    refine j_if_eq (tgt := 26) hF h (by decide) dX9_isItem_19 (fun h => ?_) (fun h => ?_)
    · refine j_iconst (v := (0 : Int32)) hF (by decide) dX9_isItem_26 ?_
      obtain rfl := ret1 h
      exact j_ret_boolean hF (by decide) hC dX9_isItem_27
    · refine j_sub (lv' := []) hF [] rfl ?_
      exact t9_isItem_b22 hF h hC
set_option maxHeartbeats 1000000 in
theorem c9_isItem {E : En} {N : Nat} {a1 : Int32} {S : Mem} {ro : Int32} (h : f9_isItem N a1 S = some ro) : CT E yX9_isItem cX9_isItem 2 (some .boolean) 1 [.ref (eA E 0), .int a1] S (some (.int ro)) S :=
  CT_of (by decide) (Nat.le_of_ble_eq_true rfl) (fun X hF => t9_isItem hF h rfl)
def f6_weightOf_10 (N : Nat) (a1 : Int32) (S : Mem) : Option Int32 :=
if a1 = (3 : Int32) then
some (((S 10).1 3))
else
bnp (f5_get N 11 3 a1 S) fun r1 =>
some (r1)
set_option maxHeartbeats 1000000 in
theorem t6_weightOf_10 {E : En} {X : Cx} {Q : State → Prop} {N : Nat} {a1 : Int32} {S : Mem} {o : Int32} (hF : Fx E X cX6_weightOf RX6 2 (some .int) 1) (h : f6_weightOf_10 N a1 S = some o) (hC : Q = RQ E X (some (.int o)) S) : J E X Q S 0 [(0, .ref (eA E 10)), (1, .int a1)] [] := by
  unfold f6_weightOf_10 at h
  refine j_iload_n hF rfl 1 rfl dX6_weightOf_0 ?_
  refine j_iconst (v := (3 : Int32)) hF (by decide) dX6_weightOf_1 ?_
  refine j_icmp_ne (tgt := 12) hF h (by decide) dX6_weightOf_2 (fun h => ?_) (fun h => ?_)
  · refine j_aload_n hF rfl 0 rfl dX6_weightOf_12 ?_
    refine gf6_0 hF (by decide) (s_10 E _) rfl bw_1_64 dX6_weightOf_13 ?_
    refine j_iload_n hF rfl 1 rfl dX6_weightOf_16 ?_
    obtain ⟨r1, hr1, h⟩ := bnp_some h
    refine j_callV_i (As := [.int a1]) (st := []) hF rfl mv_5_get (by decide) (s_11 E _) rfl bw_2_224 rfl (by decide) (Nat.le_of_ble_eq_true rfl) dX6_weightOf_17 (c5_get (ra_11 E) hr1) ?_
    obtain rfl := ret1 h
    exact j_iret hF hC dX6_weightOf_20
  · refine j_aload_n hF rfl 0 rfl dX6_weightOf_5 ?_
    refine gf6_3 hF (by decide) (s_10 E _) rfl bw_1_67 dX6_weightOf_6 ?_
    refine j_goto (tgt := 20) hF (by decide) dX6_weightOf_9 ?_
    obtain rfl := ret1 h
    exact j_iret hF hC dX6_weightOf_20
set_option maxHeartbeats 1000000 in
theorem c6_weightOf_10 {E : En} {N : Nat} {a1 : Int32} {S : Mem} {ro : Int32} (h : f6_weightOf_10 N a1 S = some ro) : CT E yX6_weightOf cX6_weightOf 2 (some .int) 1 [.ref (eA E 10), .int a1] S (some (.int ro)) S :=
  CT_of (by decide) (Nat.le_of_ble_eq_true rfl) (fun X hF => t6_weightOf_10 hF h rfl)
def f9_thing (N : Nat) (a1 : Int32) (S : Mem) : Option Int32 :=
bnp (f9_isItem N a1 S) fun r1 =>
if r1 = 0 then
some ((-1 : Int32))
else
bnp (f6_weightOf_10 N a1 S) fun r2 =>
some (r2)
set_option maxHeartbeats 1000000 in
theorem t9_thing {E : En} {X : Cx} {Q : State → Prop} {N : Nat} {a1 : Int32} {S : Mem} {o : Int32} (hF : Fx E X cX9_thing RX9 2 (some .int) 2) (h : f9_thing N a1 S = some o) (hC : Q = RQ E X (some (.int o)) S) : J E X Q S 0 [(0, .ref (eA E 0)), (1, .int a1)] [] := by
  unfold f9_thing at h
  refine j_aload_n hF rfl 0 rfl dX9_thing_0 ?_
  refine j_iload_n hF rfl 1 rfl dX9_thing_1 ?_
  obtain ⟨r1, hr1, h⟩ := bnp_some h
  refine j_callV_i (As := [.int a1]) (st := []) hF rfl mv_9_isItem (by decide) (s_0 E _) rfl bw_2_214 rfl (by decide) (Nat.le_of_ble_eq_true rfl) dX9_thing_2 (c9_isItem hr1) ?_
  refine j_if_eq (tgt := 19) hF h (by decide) dX9_thing_5 (fun h => ?_) (fun h => ?_)
  · refine j_iconst (v := (-1 : Int32)) hF (by decide) dX9_thing_19 ?_
    obtain rfl := ret1 h
    exact j_iret hF hC dX9_thing_20
  · refine j_aload_n hF rfl 0 rfl dX9_thing_8 ?_
    refine gf9_2 hF (by decide) (s_0 E _) rfl bw_1_227 dX9_thing_9 ?_
    refine j_iload_n hF rfl 1 rfl dX9_thing_12 ?_
    obtain ⟨r2, hr2, h⟩ := bnp_some h
    refine j_callV_i (As := [.int a1]) (st := []) hF rfl mv_6_weightOf (by decide) (s_10 E _) rfl bw_2_220 rfl (by decide) (Nat.le_of_ble_eq_true rfl) dX9_thing_13 (c6_weightOf_10 hr2) ?_
    refine j_goto (tgt := 20) hF (by decide) dX9_thing_16 ?_
    obtain rfl := ret1 h
    exact j_iret hF hC dX9_thing_20
set_option maxHeartbeats 1000000 in
theorem c9_thing {E : En} {N : Nat} {a1 : Int32} {S : Mem} {ro : Int32} (h : f9_thing N a1 S = some ro) : CT E yX9_thing cX9_thing 2 (some .int) 2 [.ref (eA E 0), .int a1] S (some (.int ro)) S :=
  CT_of (by decide) (Nat.le_of_ble_eq_true rfl) (fun X hF => t9_thing hF h rfl)
def f6_sets_10 (N : Nat) (S : Mem) : Option Int32 :=
some (((1 : Int32) <<< (((S 10).1 2) &&& 31)))
set_option maxHeartbeats 1000000 in
theorem t6_sets_10 {E : En} {X : Cx} {Q : State → Prop} {N : Nat} {S : Mem} {o : Int32} (hF : Fx E X cX6_sets RX6 1 (some .int) 0) (h : f6_sets_10 N S = some o) (hC : Q = RQ E X (some (.int o)) S) : J E X Q S 0 [(0, .ref (eA E 10))] [] := by
  unfold f6_sets_10 at h
  refine j_iconst (v := (1 : Int32)) hF (by decide) dX6_sets_0 ?_
  refine j_aload_n hF rfl 0 rfl dX6_sets_1 ?_
  refine gf6_2 hF (by decide) (s_10 E _) rfl bw_1_66 dX6_sets_2 ?_
  refine j_ishl hF dX6_sets_5 ?_
  obtain rfl := ret1 h
  exact j_iret hF hC dX6_sets_6
set_option maxHeartbeats 1000000 in
theorem c6_sets_10 {E : En} {N : Nat} {S : Mem} {ro : Int32} (h : f6_sets_10 N S = some ro) : CT E yX6_sets cX6_sets 1 (some .int) 0 [.ref (eA E 10)] S (some (.int ro)) S :=
  CT_of (by decide) (Nat.le_of_ble_eq_true rfl) (fun X hF => t6_sets_10 hF h rfl)
def f9_isSet (N : Nat) (a1 : Int32) (S : Mem) : Option Int32 :=
bnp (f6_sets_10 N S) fun r1 =>
bnp (f9_isBetween N a1 (0 : Int32) (r1 - (1 : Int32)) S) fun r2 =>
if r2 = 0 ∨ r2 = 1 then
some (r2) else none
set_option maxHeartbeats 1000000 in
theorem t9_isSet {E : En} {X : Cx} {Q : State → Prop} {N : Nat} {a1 : Int32} {S : Mem} {o : Int32} (hF : Fx E X cX9_isSet RX9 2 (some .boolean) 1) (h : f9_isSet N a1 S = some o) (hC : Q = RQ E X (some (.int o)) S) : J E X Q S 0 [(0, .ref (eA E 0)), (1, .int a1)] [] := by
  unfold f9_isSet at h
  refine j_iload_n hF rfl 1 rfl dX9_isSet_0 ?_
  refine j_iconst (v := (0 : Int32)) hF (by decide) dX9_isSet_1 ?_
  refine j_aload_n hF rfl 0 rfl dX9_isSet_2 ?_
  refine gf9_2 hF (by decide) (s_0 E _) rfl bw_1_227 dX9_isSet_3 ?_
  obtain ⟨r1, hr1, h⟩ := bnp_some h
  refine j_callV_i (As := []) (st := [.int (0 : Int32), .int a1]) hF rfl mv_6_sets (by decide) (s_10 E _) rfl bw_2_233 rfl (by decide) (Nat.le_of_ble_eq_true rfl) dX9_isSet_6 (c6_sets_10 hr1) ?_
  refine j_iconst (v := (1 : Int32)) hF (by decide) dX9_isSet_9 ?_
  refine j_isub hF dX9_isSet_10 ?_
  obtain ⟨r2, hr2, h⟩ := bnp_some h
  refine j_callS_i (As := [.int a1, .int (0 : Int32), .int (r1 - (1 : Int32))]) (st := []) hF rfl mv_9_isBetween bw_2_219 rfl (by decide) (Nat.le_of_ble_eq_true rfl) dX9_isSet_11 (c9_isBetween hr2) ?_
  obtain ⟨hz, h⟩ := zg_some h
  obtain rfl := ret1 h
  exact j_ret_boolean hF (zg_nar hz) hC dX9_isSet_14
set_option maxHeartbeats 1000000 in
theorem c9_isSet {E : En} {N : Nat} {a1 : Int32} {S : Mem} {ro : Int32} (h : f9_isSet N a1 S = some ro) : CT E yX9_isSet cX9_isSet 2 (some .boolean) 1 [.ref (eA E 0), .int a1] S (some (.int ro)) S :=
  CT_of (by decide) (Nat.le_of_ble_eq_true rfl) (fun X hF => t9_isSet hF h rfl)
def f0_isFull_15 (N : Nat) (S : Mem) : Option Int32 :=
if ((S 15).1 3) < (12 : Int32) then
some ((0 : Int32))
else
some ((1 : Int32))
set_option maxHeartbeats 1000000 in
theorem t0_isFull_15 {E : En} {X : Cx} {Q : State → Prop} {N : Nat} {S : Mem} {o : Int32} (hF : Fx E X cX0_isFull RX0 1 (some .boolean) 0) (h : f0_isFull_15 N S = some o) (hC : Q = RQ E X (some (.int o)) S) : J E X Q S 0 [(0, .ref (eA E 15))] [] := by
  unfold f0_isFull_15 at h
  refine j_aload_n hF rfl 0 rfl dX0_isFull_0 ?_
  refine gf0_3 hF (by decide) (s_15 E _) rfl bw_1_118 dX0_isFull_1 ?_
  refine j_bipush (v := (12 : Int32)) hF (by decide) dX0_isFull_4 ?_
  refine j_icmp_lt (tgt := 13) hF h (by decide) dX0_isFull_6 (fun h => ?_) (fun h => ?_)
  · refine j_iconst (v := (0 : Int32)) hF (by decide) dX0_isFull_13 ?_
    obtain rfl := ret1 h
    exact j_ret_boolean hF (by decide) hC dX0_isFull_14
  · refine j_iconst (v := (1 : Int32)) hF (by decide) dX0_isFull_9 ?_
    refine j_goto (tgt := 14) hF (by decide) dX0_isFull_10 ?_
    obtain rfl := ret1 h
    exact j_ret_boolean hF (by decide) hC dX0_isFull_14
set_option maxHeartbeats 1000000 in
theorem c0_isFull_15 {E : En} {N : Nat} {S : Mem} {ro : Int32} (h : f0_isFull_15 N S = some ro) : CT E yX0_isFull cX0_isFull 1 (some .boolean) 0 [.ref (eA E 15)] S (some (.int ro)) S :=
  CT_of (by decide) (Nat.le_of_ble_eq_true rfl) (fun X hF => t0_isFull_15 hF h rfl)
def f6_loadOf_10_b32 (N : Nat) (v1 : Int32) (v2 : Int32) (v3 : Int32) (S : Mem) : Option ((Int32 × Int32) ⊕ (Int32)) :=
lt_ (v3 + (1 : Int32)) fun x1 =>
some (.inl (v2, x1))
def f6_loadOf_10_L4 (N : Nat) (v1 : Int32) (v2 : Int32) (v3 : Int32) (S : Mem) : Option ((Int32 × Int32) ⊕ (Int32)) :=
if ((S 10).1 2) ≤ v3 then
some (.inr (v2))
else
if ((v1 >>> (v3 &&& 31)) &&& (1 : Int32)) = (1 : Int32) then
bnp (f5_get N 11 3 v3 S) fun r2 =>
lt_ (v2 + r2) fun x3 =>
f6_loadOf_10_b32 N v1 x3 v3 S
else
f6_loadOf_10_b32 N v1 v2 v3 S
def f6_loadOf_10_b38 (N : Nat) (v2 : Int32) (S : Mem) : Option Int32 :=
some (v2)
def f6_loadOf_10 (N : Nat) (a1 : Int32) (S : Mem) : Option Int32 :=
bnp (lp N (fun s => f6_loadOf_10_L4 N a1 s.1 s.2 S) ((0 : Int32), (0 : Int32))) fun z4 =>
f6_loadOf_10_b38 N z4 S
set_option maxHeartbeats 1000000 in
theorem t6_loadOf_10_b32 {E : En} {X : Cx} {Q : State → Prop} {N : Nat} {v1 : Int32} {v2 : Int32} {v3 : Int32} {S : Mem} {o : ((Int32 × Int32) ⊕ (Int32))} (hF : Fx E X cX6_loadOf RX6 4 (some .int) 1) (h : f6_loadOf_10_b32 N v1 v2 v3 S = some o) (hC : Sum.elim (fun (s : (Int32 × Int32)) => J E X Q S 4 [(0, .ref (eA E 10)), (1, .int v1), (2, .int s.1), (3, .int s.2)] []) (fun (x : (Int32)) => J E X Q S 38 [(2, .int x)] []) o) : J E X Q S 32 [(0, .ref (eA E 10)), (1, .int v1), (2, .int v2), (3, .int v3)] [] := by
  unfold f6_loadOf_10_b32 at h
  refine j_iinc (v := (v3 + (1 : Int32))) (lv' := [(3, .int (v3 + (1 : Int32))), (0, .ref (eA E 10)), (1, .int v1), (2, .int v2)]) (q := 3) hF rfl (congrArg (fun z => v3 + z) (by decide)) (by decide) rfl dX6_loadOf_32 ?_
  refine j_nmL h (fun x1 h => ?_)
  refine j_goto (tgt := 4) hF (by decide) dX6_loadOf_35 ?_
  obtain rfl := ret1 h
  refine j_sub (lv' := [(0, .ref (eA E 10)), (1, .int v1), (2, .int v2), (3, .int x1)]) hF [1, 2, 3, 0] rfl ?_
  exact hC
set_option maxHeartbeats 1000000 in
theorem t6_loadOf_10_L4 {E : En} {X : Cx} {Q : State → Prop} {N : Nat} {v1 : Int32} {v2 : Int32} {v3 : Int32} {S : Mem} {o : ((Int32 × Int32) ⊕ (Int32))} (hF : Fx E X cX6_loadOf RX6 4 (some .int) 1) (h : f6_loadOf_10_L4 N v1 v2 v3 S = some o) (hC : Sum.elim (fun (s : (Int32 × Int32)) => J E X Q S 4 [(0, .ref (eA E 10)), (1, .int v1), (2, .int s.1), (3, .int s.2)] []) (fun (x : (Int32)) => J E X Q S 38 [(2, .int x)] []) o) : J E X Q S 4 [(0, .ref (eA E 10)), (1, .int v1), (2, .int v2), (3, .int v3)] [] := by
  unfold f6_loadOf_10_L4 at h
  refine j_iload_n hF rfl 3 rfl dX6_loadOf_4 ?_
  refine j_aload_n hF rfl 0 rfl dX6_loadOf_5 ?_
  refine gf6_2 hF (by decide) (s_10 E _) rfl bw_1_66 dX6_loadOf_6 ?_
  refine j_icmp_ge (tgt := 38) hF h (by decide) dX6_loadOf_9 (fun h => ?_) (fun h => ?_)
  · obtain rfl := ret1 h
    refine j_sub (lv' := [(2, .int v2)]) hF [2] rfl ?_
    exact hC
  · refine j_iload_n hF rfl 1 rfl dX6_loadOf_12 ?_
    refine j_iload_n hF rfl 3 rfl dX6_loadOf_13 ?_
    refine j_ishr hF dX6_loadOf_14 ?_
    refine j_iconst (v := (1 : Int32)) hF (by decide) dX6_loadOf_15 ?_
    refine j_iand hF dX6_loadOf_16 ?_
    refine j_iconst (v := (1 : Int32)) hF (by decide) dX6_loadOf_17 ?_
    refine j_icmp_ne (tgt := 32) hF h (by decide) dX6_loadOf_18 (fun h => ?_) (fun h => ?_)
    · exact t6_loadOf_10_b32 hF h hC
    · refine j_iload_n hF rfl 2 rfl dX6_loadOf_21 ?_
      refine j_aload_n hF rfl 0 rfl dX6_loadOf_22 ?_
      refine gf6_0 hF (by decide) (s_10 E _) rfl bw_1_64 dX6_loadOf_23 ?_
      refine j_iload_n hF rfl 3 rfl dX6_loadOf_26 ?_
      obtain ⟨r2, hr2, h⟩ := bnp_some h
      refine j_callV_i (As := [.int v3]) (st := [.int v2]) hF rfl mv_5_get (by decide) (s_11 E _) rfl bw_2_224 rfl (by decide) (Nat.le_of_ble_eq_true rfl) dX6_loadOf_27 (c5_get (ra_11 E) hr2) ?_
      refine j_iadd hF dX6_loadOf_30 ?_
      refine j_istore_n (lv' := [(2, .int (v2 + r2)), (0, .ref (eA E 10)), (1, .int v1), (3, .int v3)]) hF rfl (by decide) rfl dX6_loadOf_31 ?_
      refine j_nmL h (fun x3 h => ?_)
      refine j_sub (lv' := [(0, .ref (eA E 10)), (1, .int v1), (2, .int x3), (3, .int v3)]) hF [1, 2, 0, 3] rfl ?_
      exact t6_loadOf_10_b32 hF h hC
set_option maxHeartbeats 1000000 in
theorem t6_loadOf_10_b38 {E : En} {X : Cx} {Q : State → Prop} {N : Nat} {v2 : Int32} {S : Mem} {o : Int32} (hF : Fx E X cX6_loadOf RX6 4 (some .int) 1) (h : f6_loadOf_10_b38 N v2 S = some o) (hC : Q = RQ E X (some (.int o)) S) : J E X Q S 38 [(2, .int v2)] [] := by
  unfold f6_loadOf_10_b38 at h
  refine j_iload_n hF rfl 0 rfl dX6_loadOf_38 ?_
  obtain rfl := ret1 h
  exact j_iret hF hC dX6_loadOf_39
set_option maxHeartbeats 1000000 in
theorem t6_loadOf_10 {E : En} {X : Cx} {Q : State → Prop} {N : Nat} {a1 : Int32} {S : Mem} {o : Int32} (hF : Fx E X cX6_loadOf RX6 4 (some .int) 1) (h : f6_loadOf_10 N a1 S = some o) (hC : Q = RQ E X (some (.int o)) S) : J E X Q S 0 [(0, .ref (eA E 10)), (1, .int a1)] [] := by
  unfold f6_loadOf_10 at h
  refine j_iconst (v := (0 : Int32)) hF (by decide) dX6_loadOf_0 ?_
  refine j_istore_n (lv' := [(2, .int (0 : Int32)), (0, .ref (eA E 10)), (1, .int a1)]) hF rfl (by decide) rfl dX6_loadOf_1 ?_
  refine j_iconst (v := (0 : Int32)) hF (by decide) dX6_loadOf_2 ?_
  refine j_istore_n (lv' := [(3, .int (0 : Int32)), (2, .int (0 : Int32)), (0, .ref (eA E 10)), (1, .int a1)]) hF rfl (by decide) rfl dX6_loadOf_3 ?_
  obtain ⟨z4, hz4, h⟩ := bnp_some h
  refine j_sub (lv' := [(0, .ref (eA E 10)), (1, .int a1), (2, .int (0 : Int32)), (3, .int (0 : Int32))]) hF [2, 3, 1, 0] rfl ?_
  have hx : (fun (x : (Int32)) => J E X Q S 38 [(2, .int x)] []) z4 := by
    exact t6_loadOf_10_b38 hF h hC
  exact lp_rule (Jh := fun (s : (Int32 × Int32)) => J E X Q S 4 [(0, .ref (eA E 10)), (1, .int a1), (2, .int s.1), (3, .int s.2)] []) (C := fun (x : (Int32)) => J E X Q S 38 [(2, .int x)] []) (fun s o h hC => t6_loadOf_10_L4 hF h hC) N ((0 : Int32), (0 : Int32)) z4 hz4 hx
set_option maxHeartbeats 1000000 in
theorem c6_loadOf_10 {E : En} {N : Nat} {a1 : Int32} {S : Mem} {ro : Int32} (h : f6_loadOf_10 N a1 S = some ro) : CT E yX6_loadOf cX6_loadOf 4 (some .int) 1 [.ref (eA E 10), .int a1] S (some (.int ro)) S :=
  CT_of (by decide) (Nat.le_of_ble_eq_true rfl) (fun X hF => t6_loadOf_10 hF h rfl)
