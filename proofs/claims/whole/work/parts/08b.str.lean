def strLen (w : Nat) : Nat := [5, 3, 7].getD w 0
def strByt (w : Nat) : List Int32 := [[116, 104, 105, 110, 103], [111, 119, 110], [102, 105, 103, 117, 114, 101, 115]].getD w []
def fS_length (N : Nat) (w : Nat) (S : Mem) : Option Int32 := some (nI (strLen w))
def fS_charAt (N : Nat) (w : Nat) (a1 : Int32) (S : Mem) : Option Int32 := if a1 < 0 ∨ strLen w ≤ a1.toNatClampNeg then none else some ((strByt w).getD a1.toNatClampNeg 0)
theorem strLen_le {w : Nat} (hw : w < 3) : strLen w < 8 := by rcases (show w = 0 ∨ w = 1 ∨ w = 2 by omega) with rfl | rfl | rfl <;> decide
theorem strByt_char : ∀ w, w < 3 → ∀ j, j < strLen w → (((strByt w).getD j 0 &&& (255 : Int32)).toUInt32 % 65536).toInt32 = (strByt w).getD j 0 ∧ narrow .char (.int ((strByt w).getD j 0)) = .int ((strByt w).getD j 0) := by decide +kernel
theorem j_getCS {E : En} {X : Cx} {Q : State → Prop} {S : Mem} {cc : ByteArray} {own : String} {nL d pc : Nat} {ret : Option FieldType} {lv : List (Nat × Value)} {st : List Value} (hF : Fx E X cc own nL ret d) (ho : own = RJ0) (hd : decode cc pc = .ok (.getstatic 38, 3)) (kk : J E X Q S (pc + 3) lv (.int (1 : Int32) :: st)) : J E X Q S pc lv st := by
  subst ho
  rcases X with ⟨p, l, e, R, s, m, args, below, meth, c, n0, A, cells, slots⟩
  obtain ⟨hx, hb, hml, hn0, hown, hts, hK, hStr, hLit, hr, hlocks, hl0, hd1, hd2, hd3, hd4⟩ := hF
  intro H locs ls hP hD hS hl
  exact va_gets hx hb hStr.1 hS hown (hts _ bw_2_97) (fun _ h => h) hd (kk H locs ls hP hD hS hl)
theorem j_getSF {E : En} {X : Cx} {Q : State → Prop} {S : Mem} {cc : ByteArray} {own : String} {nL d pc : Nat} {ret : Option FieldType} {lv : List (Nat × Value)} {st : List Value} (hF : Fx E X cc own nL ret d) (ho : own = RJ0) (hd : decode cc pc = .ok (.getstatic 1053, 3)) (kk : ∀ v : Value, v.category = 1 → J E X Q S (pc + 3) lv (v :: st)) : J E X Q S pc lv st := by
  subst ho
  rcases X with ⟨p, l, e, R, s, m, args, below, meth, c, n0, A, cells, slots⟩
  obtain ⟨hx, hb, hml, hn0, hown, hts, hK, hStr, hLit, hr, hlocks, hl0, hd1, hd2, hd3, hd4⟩ := hF
  intro H locs ls hP hD hS hl
  rcases hStr.2.2 with hz | ⟨t, hz⟩
  · exact va_gets hx hb hz hS hown (hts _ bw_2_114) (fun _ h => h) hd (kk .null rfl H locs ls hP hD hS hl)
  · exact va_gets hx hb hz hS hown (hts _ bw_2_114) (fun _ h => h) hd (kk (.ref t) rfl H locs ls hP hD hS hl)
theorem j_getSV {E : En} {X : Cx} {Q : State → Prop} {S : Mem} {cc : ByteArray} {own : String} {nL d pc : Nat} {ret : Option FieldType} {lv : List (Nat × Value)} {st : List Value} (hF : Fx E X cc own nL ret d) {w : Nat} (ho : own = RJ0) (hw : w < 3) (hd : decode cc pc = .ok (.getfield 9, 3)) (kk : J E X Q S (pc + 3) lv (.ref (eV E w) :: st)) : J E X Q S pc lv (.ref (eK E w) :: st) := by
  subst ho
  rcases X with ⟨p, l, e, R, s, m, args, below, meth, c, n0, A, cells, slots⟩
  obtain ⟨hx, hb, hml, hn0, hown, hts, hK, hStr, hLit, hr, hlocks, hl0, hd1, hd2, hd3, hd4⟩ := hF
  intro H locs ls hP hD hS hl
  exact vk_getf hx hb (hStr.2.1.1 w hw).2.2.1 hS hown (hts _ bw_5_163) (fun _ h => h) hd (kk H locs ls hP hD hS hl)
theorem j_getSC {E : En} {X : Cx} {Q : State → Prop} {S : Mem} {cc : ByteArray} {own : String} {nL d pc : Nat} {ret : Option FieldType} {lv : List (Nat × Value)} {st : List Value} (hF : Fx E X cc own nL ret d) {w : Nat} (ho : own = RJ0) (hw : w < 3) (hd : decode cc pc = .ok (.getfield 15, 3)) (kk : J E X Q S (pc + 3) lv (.int (0 : Int32) :: st)) : J E X Q S pc lv (.ref (eK E w) :: st) := by
  subst ho
  rcases X with ⟨p, l, e, R, s, m, args, below, meth, c, n0, A, cells, slots⟩
  obtain ⟨hx, hb, hml, hn0, hown, hts, hK, hStr, hLit, hr, hlocks, hl0, hd1, hd2, hd3, hd4⟩ := hF
  intro H locs ls hP hD hS hl
  exact vk_getf hx hb (hStr.2.1.1 w hw).2.1 hS hown (hts _ bw_5_164) (fun _ h => h) hd (kk H locs ls hP hD hS hl)
theorem j_lenS {E : En} {X : Cx} {Q : State → Prop} {S : Mem} {cc : ByteArray} {own : String} {nL d pc : Nat} {ret : Option FieldType} {lv : List (Nat × Value)} {st : List Value} (hF : Fx E X cc own nL ret d) {w : Nat} (hw : w < 3) (hd : decode cc pc = .ok (.arraylength, 1)) (kk : J E X Q S (pc + 1) lv (.int (nI (strLen w)) :: st)) : J E X Q S pc lv (.ref (eV E w) :: st) := by
  rcases X with ⟨p, l, e, R, s, m, args, below, meth, c, n0, A, cells, slots⟩
  obtain ⟨hx, hb, hml, hn0, hown, hts, hK, hStr, hLit, hr, hlocks, hl0, hd1, hd2, hd3, hd4⟩ := hF
  intro H locs ls hP hD hS hl
  exact va_tlen hx hb (hStr.2.1.1 w hw).2.2.2 hS rfl hd (kk H locs ls hP hD hS hl)
theorem j_bldS {E : En} {X : Cx} {Q : State → Prop} {S : Mem} {cc : ByteArray} {own : String} {nL d pc : Nat} {ret : Option FieldType} {lv : List (Nat × Value)} {st : List Value} (hF : Fx E X cc own nL ret d) {w : Nat} {i : Int32} (hw : w < 3) (hin : vp_in i (strLen w)) (hd : decode cc pc = .ok (.baload, 1)) (kk : J E X Q S (pc + 1) lv (.int ((strByt w).getD i.toNatClampNeg 0) :: st)) : J E X Q S pc lv (.int i :: .ref (eV E w) :: st) := by
  rcases X with ⟨p, l, e, R, s, m, args, below, meth, c, n0, A, cells, slots⟩
  obtain ⟨hx, hb, hml, hn0, hown, hts, hK, hStr, hLit, hr, hlocks, hl0, hd1, hd2, hd3, hd4⟩ := hF
  intro H locs ls hP hD hS hl
  exact va_tb hx hb (hStr.2.1.1 w hw).2.2.2 hS hin rfl hd (kk H locs ls hP hD hS hl)
theorem j_popv {E : En} {X : Cx} {Q : State → Prop} {S : Mem} {cc : ByteArray} {own : String} {nL d pc : Nat} {ret : Option FieldType} {lv : List (Nat × Value)} {st : List Value} (hF : Fx E X cc own nL ret d) {v : Value} (hc : v.category = 1) (hd : decode cc pc = .ok (.pop, 1)) (k : J E X Q S (pc + 1) lv st) : J E X Q S pc lv (v :: st) := j_pop hF hc hd k
theorem mv_S_length : MV yJ0_length_8abf5 cJ0_length_8abf5 1 (some .int) "java/lang/String" 0 := ⟨⟨rfl, by decide⟩, ⟨by decide +kernel, by decide +kernel, by decide +kernel⟩, bw_2_92, bw_1_12, bw_2_90, bw_2_91⟩
theorem mv_S_charAt : MV yJ0_charAt_5068e cJ0_charAt_5068e 2 (some .char) "java/lang/String" 1 := ⟨⟨rfl, by decide⟩, ⟨by decide +kernel, by decide +kernel, by decide +kernel⟩, bw_2_103, bw_1_12, bw_2_101, bw_2_102⟩
theorem mv_S_coder : MV yJ0_coder_7d493 cJ0_coder_7d493 1 (some .byte) "java/lang/String" 0 := ⟨⟨rfl, by decide⟩, ⟨by decide +kernel, by decide +kernel, by decide +kernel⟩, bw_2_96, bw_1_12, bw_2_94, bw_2_95⟩
theorem mv_S_isLatin1 : MV yJ0_isLatin1_aae02 cJ0_isLatin1_aae02 1 (some .boolean) "java/lang/String" 0 := ⟨⟨rfl, by decide⟩, ⟨by decide +kernel, by decide +kernel, by decide +kernel⟩, bw_2_107, bw_1_12, bw_2_105, bw_2_106⟩
theorem mv_S_checkIndex : MS yJ0_checkIndex_df160 cJ0_checkIndex_df160 2 none 2 := ⟨by decide, ⟨by decide +kernel, by decide +kernel, by decide +kernel⟩, bw_2_113, bw_1_12, bw_2_112⟩
theorem mv_S_lcharAt : MS yJ1_charAt_3b067 cJ1_charAt_3b067 2 (some .char) 2 := ⟨by decide, ⟨by decide +kernel, by decide +kernel, by decide +kernel⟩, bw_2_110, bw_1_13, bw_2_109⟩
theorem mv_S_pcheckIndex : MS yJ3_checkIndex_8e157 cJ3_checkIndex_8e157 3 (some .int) 3 := ⟨by decide, ⟨by decide +kernel, by decide +kernel, by decide +kernel⟩, bw_2_118, bw_1_14, bw_2_117⟩
theorem cS_coder {E : En} {w : Nat} {S : Mem} (hw : w < 3) : CT E yJ0_coder_7d493 cJ0_coder_7d493 1 (some .byte) 0 [.ref (eK E w)] S (some (.int 0)) S := by
  refine CT_of (by decide) (Nat.le_of_ble_eq_true rfl) (fun X hF => ?_)
  show J E X _ S 0 [(0, .ref (eK E w))] []
  refine j_getCS hF rfl dJ0_coder_7d493_0 ?_
  refine j_if_eq (tgt := 13) (A1 := (none : Option Unit)) (B1 := some ()) (o := ()) hF rfl (by decide) dJ0_coder_7d493_3 (fun h => by cases h) (fun h => ?_)
  refine j_aload_n hF rfl 0 rfl dJ0_coder_7d493_6 ?_
  refine j_getSC hF rfl hw dJ0_coder_7d493_7 ?_
  refine j_goto (tgt := 14) hF (by decide) dJ0_coder_7d493_10 ?_
  exact j_ret_byte hF (by decide) rfl dJ0_coder_7d493_14
theorem cS_isLatin1 {E : En} {w : Nat} {S : Mem} (hw : w < 3) : CT E yJ0_isLatin1_aae02 cJ0_isLatin1_aae02 1 (some .boolean) 0 [.ref (eK E w)] S (some (.int 1)) S := by
  refine CT_of (by decide) (Nat.le_of_ble_eq_true rfl) (fun X hF => ?_)
  show J E X _ S 0 [(0, .ref (eK E w))] []
  refine j_getCS hF rfl dJ0_isLatin1_aae02_0 ?_
  refine j_if_eq (tgt := 17) (A1 := (none : Option Unit)) (B1 := some ()) (o := ()) hF rfl (by decide) dJ0_isLatin1_aae02_3 (fun h => by cases h) (fun h => ?_)
  refine j_aload_n hF rfl 0 rfl dJ0_isLatin1_aae02_6 ?_
  refine j_getSC hF rfl hw dJ0_isLatin1_aae02_7 ?_
  refine j_if_ne (tgt := 17) (A1 := (none : Option Unit)) (B1 := some ()) (o := ()) hF rfl (by decide) dJ0_isLatin1_aae02_10 (fun h => by cases h) (fun h => ?_)
  refine j_iconst (v := (1 : Int32)) hF (by decide) dJ0_isLatin1_aae02_13 ?_
  refine j_goto (tgt := 18) hF (by decide) dJ0_isLatin1_aae02_14 ?_
  exact j_ret_boolean hF (by decide) rfl dJ0_isLatin1_aae02_18
theorem cS_length {E : En} {N w : Nat} {S : Mem} {r : Int32} (hw : w < 3) (h : fS_length N w S = some r) : CT E yJ0_length_8abf5 cJ0_length_8abf5 1 (some .int) 1 [.ref (eK E w)] S (some (.int r)) S := by
  have e : r = nI (strLen w) := (Option.some.inj h).symm
  subst e
  refine CT_of (by decide) (Nat.le_of_ble_eq_true rfl) (fun X hF => ?_)
  show J E X _ S 0 [(0, .ref (eK E w))] []
  refine j_aload_n hF rfl 0 rfl dJ0_length_8abf5_0 ?_
  refine j_getSV hF rfl hw dJ0_length_8abf5_1 ?_
  refine j_lenS hF hw dJ0_length_8abf5_4 ?_
  refine j_aload_n hF rfl 0 rfl dJ0_length_8abf5_5 ?_
  refine j_callT_i (As := []) (st := [.int (nI (strLen w))]) hF rfl hw mv_S_coder bw_2_93 rfl (by decide) (Nat.le_of_ble_eq_true rfl) dJ0_length_8abf5_6 (cS_coder hw) ?_
  refine j_ishr hF dJ0_length_8abf5_9 ?_
  rw [sb_shr0]
  exact j_iret hF rfl dJ0_length_8abf5_10
theorem cS_pcheck {E : En} {S : Mem} {i n : Int32} {v : Value} (hv : v.category = 1) (h0 : ¬ i < 0) (h1 : i < n) : CT E yJ3_checkIndex_8e157 cJ3_checkIndex_8e157 3 (some .int) 0 [.int i, .int n, v] S (some (.int i)) S := by
  refine CT_of (by decide) (by
    have e : lg_sl [v] = [.val v] := by simp [lg_sl, hv]
    show ([Slot.val (.int i), Slot.val (.int n)] ++ lg_sl [v]).length ≤ 3
    rw [e]
    exact Nat.le_refl 3) (fun X hF => ?_)
  show J E X _ S 0 [(0, .int i), (1, .int n), (2, v)] []
  refine j_iload_n hF rfl 0 rfl dJ3_checkIndex_8e157_0 ?_
  refine j_if_lt (tgt := 9) (A1 := (none : Option Unit)) (B1 := some ()) (o := ()) hF (if_neg h0) (by decide) dJ3_checkIndex_8e157_1 (fun h => by cases h) (fun h => ?_)
  refine j_iload_n hF rfl 0 rfl dJ3_checkIndex_8e157_4 ?_
  refine j_iload_n hF rfl 1 rfl dJ3_checkIndex_8e157_5 ?_
  refine j_icmp_lt (tgt := 16) (A1 := some ()) (B1 := (none : Option Unit)) (o := ()) hF (if_pos h1) (by decide) dJ3_checkIndex_8e157_6 (fun h => ?_) (fun h => by cases h)
  refine j_iload_n hF rfl 0 rfl dJ3_checkIndex_8e157_16 ?_
  exact j_iret hF rfl dJ3_checkIndex_8e157_17
theorem cS_check {E : En} {S : Mem} {i n : Int32} (h0 : ¬ i < 0) (h1 : i < n) : CT E yJ0_checkIndex_df160 cJ0_checkIndex_df160 2 none 1 [.int i, .int n] S none S := by
  refine CT_of (by decide) (Nat.le_of_ble_eq_true rfl) (fun X hF => ?_)
  show J E X _ S 0 [(0, .int i), (1, .int n)] []
  refine j_iload_n hF rfl 0 rfl dJ0_checkIndex_df160_0 ?_
  refine j_iload_n hF rfl 1 rfl dJ0_checkIndex_df160_1 ?_
  refine j_getSF hF rfl dJ0_checkIndex_df160_2 (fun v hv => ?_)
  refine j_callS_i (As := [.int i, .int n, v]) (st := []) hF rfl mv_S_pcheckIndex bw_2_116 rfl (by decide) (Nat.le_of_ble_eq_true rfl) dJ0_checkIndex_df160_5 (cS_pcheck hv h0 h1) ?_
  refine j_pop hF rfl dJ0_checkIndex_df160_8 ?_
  exact j_vret hF rfl dJ0_checkIndex_df160_9
theorem cS_lcharAt {E : En} {w : Nat} {S : Mem} {a1 : Int32} (hw : w < 3) (h0 : ¬ a1 < 0) (h1 : a1 < nI (strLen w)) (hin : vp_in a1 (strLen w)) : CT E yJ1_charAt_3b067 cJ1_charAt_3b067 2 (some .char) 2 [.ref (eV E w), .int a1] S (some (.int ((strByt w).getD a1.toNatClampNeg 0))) S := by
  refine CT_of (by decide) (Nat.le_of_ble_eq_true rfl) (fun X hF => ?_)
  show J E X _ S 0 [(0, .ref (eV E w)), (1, .int a1)] []
  have hj : a1.toNatClampNeg < strLen w := Nat.not_le.mp (fun q => hin (Or.inr q))
  obtain ⟨e1, e2⟩ := strByt_char w hw a1.toNatClampNeg hj
  refine j_iload_n hF rfl 1 rfl dJ1_charAt_3b067_0 ?_
  refine j_aload_n hF rfl 0 rfl dJ1_charAt_3b067_1 ?_
  refine j_lenS hF hw dJ1_charAt_3b067_2 ?_
  refine j_callS_v (As := [.int a1, .int (nI (strLen w))]) (st := []) hF rfl mv_S_checkIndex bw_2_111 rfl (by decide) (Nat.le_of_ble_eq_true rfl) dJ1_charAt_3b067_3 (cS_check h0 h1) ?_
  refine j_aload_n hF rfl 0 rfl dJ1_charAt_3b067_6 ?_
  refine j_iload_n hF rfl 1 rfl dJ1_charAt_3b067_7 ?_
  refine j_bldS hF hw hin dJ1_charAt_3b067_8 ?_
  refine j_sipush (v := (255 : Int32)) hF (by decide) dJ1_charAt_3b067_9 ?_
  refine j_iand hF dJ1_charAt_3b067_12 ?_
  refine j_i2c hF dJ1_charAt_3b067_13 ?_
  rw [e1]
  exact j_ret_char hF e2 rfl dJ1_charAt_3b067_14
theorem cS_charAt {E : En} {N w : Nat} {a1 : Int32} {S : Mem} {r : Int32} (hw : w < 3) (h : fS_charAt N w a1 S = some r) : CT E yJ0_charAt_5068e cJ0_charAt_5068e 2 (some .char) 3 [.ref (eK E w), .int a1] S (some (.int r)) S := by
  unfold fS_charAt at h
  by_cases hin : a1 < 0 ∨ strLen w ≤ a1.toNatClampNeg
  · rw [if_pos hin] at h; cases h
  · rw [if_neg hin] at h
    have e : r = (strByt w).getD a1.toNatClampNeg 0 := (Option.some.inj h).symm
    subst e
    have hlen := strLen_le hw
    obtain ⟨j, hj, hj2⟩ := vp_in_of (x := a1) (n := strLen w) hin (by omega)
    have h0 : ¬ a1 < 0 := fun q => hin (Or.inl q)
    have h1 : a1 < nI (strLen w) := by rw [hj2]; exact nI_lt hj (by omega)
    have hj3 : a1.toNatClampNeg < strLen w := Nat.not_le.mp (fun q => hin (Or.inr q))
    obtain ⟨e1, e2⟩ := strByt_char w hw a1.toNatClampNeg hj3
    refine CT_of (by decide) (Nat.le_of_ble_eq_true rfl) (fun X hF => ?_)
    show J E X _ S 0 [(0, .ref (eK E w)), (1, .int a1)] []
    refine j_aload_n hF rfl 0 rfl dJ0_charAt_5068e_0 ?_
    refine j_callT_i (As := []) (st := []) hF rfl hw mv_S_isLatin1 bw_2_104 rfl (by decide) (Nat.le_of_ble_eq_true rfl) dJ0_charAt_5068e_1 (cS_isLatin1 hw) ?_
    refine j_if_eq (tgt := 16) (A1 := (none : Option Unit)) (B1 := some ()) (o := ()) hF rfl (by decide) dJ0_charAt_5068e_4 (fun h => by cases h) (fun h => ?_)
    refine j_aload_n hF rfl 0 rfl dJ0_charAt_5068e_7 ?_
    refine j_getSV hF rfl hw dJ0_charAt_5068e_8 ?_
    refine j_iload_n hF rfl 1 rfl dJ0_charAt_5068e_11 ?_
    refine j_callS_i (As := [.ref (eV E w), .int a1]) (st := []) hF rfl mv_S_lcharAt bw_2_108 rfl (by decide) (Nat.le_of_ble_eq_true rfl) dJ0_charAt_5068e_12 (cS_lcharAt hw h0 h1 hin) ?_
    exact j_ret_char hF e2 rfl dJ0_charAt_5068e_15
