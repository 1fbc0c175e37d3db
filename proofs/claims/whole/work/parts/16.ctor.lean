theorem nw_X9_9 : NWF RX9 9 2 9 := ⟨RX1, TX1, tyX1, rfl, iu_2, tyX1_ok, rfl, by decide, (uw_of 113 (by decide +kernel) rfl), (uw_of 114 (by decide +kernel) rfl), (uw_of 85 (by decide +kernel) rfl), by decide⟩
theorem cb_X9_11 : CNI RX9 11 yX1_init "ChartRoom" cX1_init 1 0 := ⟨⟨cw_X1_init, ini_ChartRoom_Desk, by decide, (uw_of 115 (by decide +kernel) rfl)⟩, (uw_of 116 (by decide +kernel) rfl), rfl⟩
theorem nw_X9_18 : NWF RX9 18 1 10 := ⟨RX0, TX0, tyX0, rfl, iu_1, tyX0_ok, rfl, by decide, (uw_of 186 (by decide +kernel) rfl), (uw_of 187 (by decide +kernel) rfl), (uw_of 89 (by decide +kernel) rfl), by decide⟩
theorem cb_X9_20 : CNI RX9 20 yX0_init "ChartRoom" cX0_init 1 0 := ⟨⟨cw_X0_init, ini_ChartRoom_Chart, by decide, (uw_of 188 (by decide +kernel) rfl)⟩, (uw_of 189 (by decide +kernel) rfl), rfl⟩
theorem nw_X9_29 : NWF RX9 29 0 3 := ⟨RJx4a65c, TJx4a65c, tyJx4a65c, rfl, iu_0, tyJx4a65c_ok, rfl, by decide, (uw_of 231 (by decide +kernel) rfl), (uw_of 120 (by decide +kernel) rfl), (uw_of 88 (by decide +kernel) rfl), by decide⟩
theorem cb_X9_31 : CBI RX9 31 yJx4a65c_init_da8c8 cJx4a65c_init_da8c8 1 0 := ⟨⟨cw_Jx4a65c_init_da8c8, ini_java_util_ArrayList, by decide, (uw_of 232 (by decide +kernel) rfl)⟩, (uw_of 122 (by decide +kernel) rfl), rfl⟩
theorem nw_X9_39 : NWF RX9 39 6 3 := ⟨RX5, TX5, tyX5, rfl, iu_6, tyX5_ok, rfl, by decide, (uw_of 233 (by decide +kernel) rfl), (uw_of 234 (by decide +kernel) rfl), (uw_of 90 (by decide +kernel) rfl), by decide⟩
theorem cb_X9_41 : CNI RX9 41 yX5_init "ChartRoom" cX5_init 1 0 := ⟨⟨cw_X5_init, ini_ChartRoom_Pen, by decide, (uw_of 235 (by decide +kernel) rfl)⟩, (uw_of 236 (by decide +kernel) rfl), rfl⟩
theorem nw_X9_46 : NWF RX9 46 5 3 := ⟨RX4, TX4, tyX4, rfl, iu_5, tyX4_ok, rfl, by decide, (uw_of 249 (by decide +kernel) rfl), (uw_of 250 (by decide +kernel) rfl), (uw_of 91 (by decide +kernel) rfl), by decide⟩
theorem cb_X9_48 : CNI RX9 48 yX4_init "ChartRoom" cX4_init 1 0 := ⟨⟨cw_X4_init, ini_ChartRoom_Matching, by decide, (uw_of 251 (by decide +kernel) rfl)⟩, (uw_of 252 (by decide +kernel) rfl), rfl⟩
theorem nw_X9_65 : NWF RX9 65 8 3 := ⟨RX7, TX7, tyX7, rfl, iu_8, tyX7_ok, rfl, by decide, (uw_of 269 (by decide +kernel) rfl), (uw_of 271 (by decide +kernel) rfl), (uw_of 92 (by decide +kernel) rfl), by decide⟩
theorem cb_X9_71 : CNI RX9 71 yX7_init "ChartRoom" cX7_init 1 0 := ⟨⟨cw_X7_init, ini_ChartRoom_Sheet, by decide, (uw_of 272 (by decide +kernel) rfl)⟩, (uw_of 273 (by decide +kernel) rfl), rfl⟩
theorem cw_X9_init : Cond.code yX9_init cX9_init 2 (none) ∈ UW := (uw_of 109 (by decide +kernel) rfl)
abbrev rmX9_init : Room := { frames := 5, cells := 49, slots := 2493, locals := 100 }
noncomputable def bX9_init_0 (S : MS) (x0 : Nat) : Option MS :=
  (some (m_n S + 1)).bind fun o5 =>
  (some (m_new S 2 0)).bind fun S5 =>
  (fX1_init S5 o5).bind fun S9 =>
  (o_sP S9 x0 10 0 o5).bind fun S12 =>
  (some (m_n S12 + 1)).bind fun o16 =>
  (some (m_new S12 1 0)).bind fun S16 =>
  (fX0_init S16 o16).bind fun S20 =>
  (o_sP S20 x0 10 1 o16).bind fun S23 =>
  (o_sI S23 x0 10 2 (1 : Int32)).bind fun S28 =>
  (some (m_n S28 + 1)).bind fun o32 =>
  (some (m_new S28 0 0)).bind fun S32 =>
  (fJx4a65c_init_da8c8 S32 o32).bind fun S36 =>
  (o_sP S36 x0 10 3 o32).bind fun S39 =>
  (some (m_n S39 + 1)).bind fun o43 =>
  (some (m_new S39 0 0)).bind fun S43 =>
  (fJx4a65c_init_da8c8 S43 o43).bind fun S47 =>
  (o_sP S47 x0 10 4 o43).bind fun S50 =>
  (some (m_n S50 + 1)).bind fun o54 =>
  (some (m_new S50 6 0)).bind fun S54 =>
  (fX5_init S54 o54).bind fun S58 =>
  (o_sP S58 x0 10 5 o54).bind fun S61 =>
  (some (m_n S61 + 1)).bind fun o65 =>
  (some (m_new S61 5 0)).bind fun S65 =>
  (fX4_init S65 o65).bind fun S69 =>
  (o_sP S69 x0 10 6 o65).bind fun S72 =>
  (some (m_n S72 + 1)).bind fun o80 =>
  (some (m_grid S72 4 144)).bind fun S80 =>
  (o_sP S80 x0 10 7 o80).bind fun S84 =>
  (o_le 4 (4 : Int32)).bind fun n89 =>
  (some (m_n S84 + 1)).bind fun o89 =>
  (some (m_new S84 13 n89)).bind fun S89 =>
  (o_sP S89 x0 10 8 o89).bind fun S91 =>
  (some (m_n S91 + 1)).bind fun o95 =>
  (some (m_new S91 0 0)).bind fun S95 =>
  (fJx4a65c_init_da8c8 S95 o95).bind fun S99 =>
  (o_sP S99 x0 10 9 o95).bind fun S102 =>
  (o_le 4 (4 : Int32)).bind fun n107 =>
  (some (m_n S102 + 1)).bind fun o107 =>
  (some (m_new S102 14 n107)).bind fun S107 =>
  (o_sP S107 x0 10 10 o107).bind fun S110 =>
  (o_gP S110 x0 10 10).bind fun v121 =>
  (some (m_n S110 + 1)).bind fun o125 =>
  (some (m_new S110 8 0)).bind fun S125 =>
  (fX7_init S125 o125).bind fun S129 =>
  (o_stP S129 v121 14 (0 : Int32) o125 8).bind fun S132 =>
  (o_gP S132 x0 10 10).bind fun v121 =>
  (some (m_n S132 + 1)).bind fun o125 =>
  (some (m_new S132 8 0)).bind fun S125 =>
  (fX7_init S125 o125).bind fun S129 =>
  (o_stP S129 v121 14 (1 : Int32) o125 8).bind fun S132 =>
  (o_gP S132 x0 10 10).bind fun v121 =>
  (some (m_n S132 + 1)).bind fun o125 =>
  (some (m_new S132 8 0)).bind fun S125 =>
  (fX7_init S125 o125).bind fun S129 =>
  (o_stP S129 v121 14 (2 : Int32) o125 8).bind fun S132 =>
  (o_gP S132 x0 10 10).bind fun v121 =>
  (some (m_n S132 + 1)).bind fun o125 =>
  (some (m_new S132 8 0)).bind fun S125 =>
  (fX7_init S125 o125).bind fun S129 =>
  (o_stP S129 v121 14 (3 : Int32) o125 8).bind fun S132 =>
  (o_sI S132 x0 10 11 (0 : Int32)).bind fun S141 =>
  (o_sI S141 x0 10 12 (0 : Int32)).bind fun S146 =>
  some S146
noncomputable def fX9_init (S : MS) (a0 : Nat) : Option MS := bX9_init_0 S a0
set_option maxHeartbeats 4000000 in
set_option maxRecDepth 100000 in
theorem wX9_init_0 {p : Program} {l : Launch} {e : Env} {s : State} {m : MethodId} {args : Array Value} {below : List Frame} {meth : Method} {c : Code} {D : va_G} {cy : Nat → ClassId} (ad : Nat → Nat) (A : Nat → Prop) {S : MS} {S' : MS} {H : Heap} {locs : List Loc} {K0 : Nat} {ls : Array Slot} {x0 : Nat} (C0 : CX p s m args meth c RX9 cX9_init 2 D cy) (hA : ∀ k, 0 < k → A (ad k)) (hs : ∀ k, K0 ≤ k → ad (k + 1) + 1 = ad (k + 2)) (hE : EX ad A s) (M : ST D cy ad A s.heap (ZA ad K0) S H locs) (hr : meth.sig.returnType = none) (hin : meth.name = "<init>") (hF : bX9_init_0 S x0 = some S') (hl : lv_has ls 2 [(0, .ref (ad x0))]) : W p l e rmX9_init s m args below meth c H locs 0 0 (MQ below (QcA D cy ad A K0 S' (none)) args s 49 2493 A) (F0 m 0 ls []) := by
  unfold bX9_init_0 at hF
  obtain ⟨hx, hb, -, hown, -, hts, -⟩ := id C0
  refine lv_aload_n hx hb dX9_init_0 rfl (lv_at hl 0 rfl) ?_
  refine W.objInit hx hb hown (hts _ (uw_of 110 (by decide +kernel) rfl)) (hts _ (uw_of 111 (by decide +kernel) rfl)) (hts _ (uw_of 112 (by decide +kernel) rfl)) rfl (by rw [C0.2.2.1]; exact hl.1) rfl dX9_init_1 (Nat.le_of_ble_eq_true rfl) (Nat.le_of_ble_eq_true rfl) ?_
  refine W.eq (g2 := F0 m 4 ls []) rfl ?_
  refine lv_aload_n hx hb dX9_init_4 rfl (lv_at hl 0 rfl) ?_
  obtain ⟨o5, ho, hF⟩ := ob hF
  obtain ⟨S5, hv, hF⟩ := ob hF
  have ho := vtI ho
  have hv := vtI hv
  refine k_new C0 M hA hs nw_X9_9 (Nat.le_of_ble_eq_true rfl) (Nat.le_of_ble_eq_true rfl) dX9_init_5 (fun H M => ?_)
  rw [hv] at M
  rw [ho]
  refine W.widen (k := 1) (n := 9) (Nat.le_of_ble_eq_true rfl) (Nat.le_of_ble_eq_true rfl) ?_
  refine lv_dup hx hb dX9_init_8 rfl ?_
  obtain ⟨S9, hcl, hF⟩ := ob hF
  refine go_AV (r_IN (rest := [.ref (ad o5), .ref (ad x0)]) (As := []) C0 cb_X9_11 (tX1_init l D cy ad A K0 hA hs hcl) (pre_A C0 hE M) hl dX9_init_9 rfl (Nat.le_of_ble_eq_true rfl) ⟨rfl, rfl⟩ ⟨Nat.le_of_ble_eq_true rfl, Nat.le_of_ble_eq_true rfl⟩ ⟨Nat.le_of_ble_eq_true rfl, Nat.le_of_ble_eq_true rfl⟩ rfl) M (fun H locs M => ?_)
  refine W.widen (k := 6) (n := 51) (Nat.le_of_ble_eq_true rfl) (Nat.le_of_ble_eq_true rfl) ?_
  obtain ⟨S12, hv, hF⟩ := ob hF
  refine k_sPF C0 M hin rfl hv fl_X9_12 dX9_init_12 (fun H locs M => ?_)
  refine lv_aload_n hx hb dX9_init_15 rfl (lv_at hl 0 rfl) ?_
  obtain ⟨o16, ho, hF⟩ := ob hF
  obtain ⟨S16, hv, hF⟩ := ob hF
  have ho := vtI ho
  have hv := vtI hv
  refine k_new C0 M hA hs nw_X9_18 (Nat.le_of_ble_eq_true rfl) (Nat.le_of_ble_eq_true rfl) dX9_init_16 (fun H M => ?_)
  rw [hv] at M
  rw [ho]
  refine W.widen (k := 7) (n := 61) (Nat.le_of_ble_eq_true rfl) (Nat.le_of_ble_eq_true rfl) ?_
  refine lv_dup hx hb dX9_init_19 rfl ?_
  obtain ⟨S20, hcl, hF⟩ := ob hF
  refine go_AV (r_IN (rest := [.ref (ad o16), .ref (ad x0)]) (As := []) C0 cb_X9_20 (tX0_init l D cy ad A K0 hA hs hcl) (pre_A C0 hE M) hl dX9_init_20 rfl (Nat.le_of_ble_eq_true rfl) ⟨rfl, rfl⟩ ⟨Nat.le_of_ble_eq_true rfl, Nat.le_of_ble_eq_true rfl⟩ ⟨Nat.le_of_ble_eq_true rfl, Nat.le_of_ble_eq_true rfl⟩ rfl) M (fun H locs M => ?_)
  refine W.widen (k := 12) (n := 517) (Nat.le_of_ble_eq_true rfl) (Nat.le_of_ble_eq_true rfl) ?_
  obtain ⟨S23, hv, hF⟩ := ob hF
  refine k_sPF C0 M hin rfl hv fl_X9_21 dX9_init_23 (fun H locs M => ?_)
  refine lv_aload_n hx hb dX9_init_26 rfl (lv_at hl 0 rfl) ?_
  refine lv_iconst (v := (1 : Int32)) hx hb dX9_init_27 (by decide) ?_
  have hz : o_zb (1 : Int32) = some (1 : Int32) := rfl
  obtain ⟨S28, hv, hF⟩ := ob hF
  refine k_sZ C0 M hz hv fl_X9_25 dX9_init_28 (fun H locs M => ?_)
  refine lv_aload_n hx hb dX9_init_31 rfl (lv_at hl 0 rfl) ?_
  obtain ⟨o32, ho, hF⟩ := ob hF
  obtain ⟨S32, hv, hF⟩ := ob hF
  have ho := vtI ho
  have hv := vtI hv
  refine k_new C0 M hA hs nw_X9_29 (Nat.le_of_ble_eq_true rfl) (Nat.le_of_ble_eq_true rfl) dX9_init_32 (fun H M => ?_)
  rw [hv] at M
  rw [ho]
  refine W.widen (k := 13) (n := 520) (Nat.le_of_ble_eq_true rfl) (Nat.le_of_ble_eq_true rfl) ?_
  refine lv_dup hx hb dX9_init_35 rfl ?_
  obtain ⟨S36, hcl, hF⟩ := ob hF
  refine go_AV (r_I (rest := [.ref (ad o32), .ref (ad x0)]) (As := []) C0 cb_X9_31 (tJx4a65c_init_da8c8 l D cy ad A K0 hA hs hcl) (pre_A C0 hE M) hl dX9_init_36 rfl (Nat.le_of_ble_eq_true rfl) ⟨rfl, rfl⟩ ⟨Nat.le_of_ble_eq_true rfl, Nat.le_of_ble_eq_true rfl⟩ ⟨Nat.le_of_ble_eq_true rfl, Nat.le_of_ble_eq_true rfl⟩ rfl) M (fun H locs M => ?_)
  refine W.widen (k := 13) (n := 520) (Nat.le_of_ble_eq_true rfl) (Nat.le_of_ble_eq_true rfl) ?_
  obtain ⟨S39, hv, hF⟩ := ob hF
  refine k_sP C0 M rfl hv fl_X9_32 dX9_init_39 (fun H locs M => ?_)
  refine lv_aload_n hx hb dX9_init_42 rfl (lv_at hl 0 rfl) ?_
  obtain ⟨o43, ho, hF⟩ := ob hF
  obtain ⟨S43, hv, hF⟩ := ob hF
  have ho := vtI ho
  have hv := vtI hv
  refine k_new C0 M hA hs nw_X9_29 (Nat.le_of_ble_eq_true rfl) (Nat.le_of_ble_eq_true rfl) dX9_init_43 (fun H M => ?_)
  rw [hv] at M
  rw [ho]
  refine W.widen (k := 14) (n := 523) (Nat.le_of_ble_eq_true rfl) (Nat.le_of_ble_eq_true rfl) ?_
  refine lv_dup hx hb dX9_init_46 rfl ?_
  obtain ⟨S47, hcl, hF⟩ := ob hF
  refine go_AV (r_I (rest := [.ref (ad o43), .ref (ad x0)]) (As := []) C0 cb_X9_31 (tJx4a65c_init_da8c8 l D cy ad A K0 hA hs hcl) (pre_A C0 hE M) hl dX9_init_47 rfl (Nat.le_of_ble_eq_true rfl) ⟨rfl, rfl⟩ ⟨Nat.le_of_ble_eq_true rfl, Nat.le_of_ble_eq_true rfl⟩ ⟨Nat.le_of_ble_eq_true rfl, Nat.le_of_ble_eq_true rfl⟩ rfl) M (fun H locs M => ?_)
  refine W.widen (k := 14) (n := 523) (Nat.le_of_ble_eq_true rfl) (Nat.le_of_ble_eq_true rfl) ?_
  obtain ⟨S50, hv, hF⟩ := ob hF
  refine k_sP C0 M rfl hv fl_X9_36 dX9_init_50 (fun H locs M => ?_)
  refine lv_aload_n hx hb dX9_init_53 rfl (lv_at hl 0 rfl) ?_
  obtain ⟨o54, ho, hF⟩ := ob hF
  obtain ⟨S54, hv, hF⟩ := ob hF
  have ho := vtI ho
  have hv := vtI hv
  refine k_new C0 M hA hs nw_X9_39 (Nat.le_of_ble_eq_true rfl) (Nat.le_of_ble_eq_true rfl) dX9_init_54 (fun H M => ?_)
  rw [hv] at M
  rw [ho]
  refine W.widen (k := 15) (n := 526) (Nat.le_of_ble_eq_true rfl) (Nat.le_of_ble_eq_true rfl) ?_
  refine lv_dup hx hb dX9_init_57 rfl ?_
  obtain ⟨S58, hcl, hF⟩ := ob hF
  refine go_AV (r_IN (rest := [.ref (ad o54), .ref (ad x0)]) (As := []) C0 cb_X9_41 (tX5_init l D cy ad A K0 hA hs hcl) (pre_A C0 hE M) hl dX9_init_58 rfl (Nat.le_of_ble_eq_true rfl) ⟨rfl, rfl⟩ ⟨Nat.le_of_ble_eq_true rfl, Nat.le_of_ble_eq_true rfl⟩ ⟨Nat.le_of_ble_eq_true rfl, Nat.le_of_ble_eq_true rfl⟩ rfl) M (fun H locs M => ?_)
  refine W.widen (k := 18) (n := 1414) (Nat.le_of_ble_eq_true rfl) (Nat.le_of_ble_eq_true rfl) ?_
  obtain ⟨S61, hv, hF⟩ := ob hF
  refine k_sPF C0 M hin rfl hv fl_X9_42 dX9_init_61 (fun H locs M => ?_)
  refine lv_aload_n hx hb dX9_init_64 rfl (lv_at hl 0 rfl) ?_
  obtain ⟨o65, ho, hF⟩ := ob hF
  obtain ⟨S65, hv, hF⟩ := ob hF
  have ho := vtI ho
  have hv := vtI hv
  refine k_new C0 M hA hs nw_X9_46 (Nat.le_of_ble_eq_true rfl) (Nat.le_of_ble_eq_true rfl) dX9_init_65 (fun H M => ?_)
  rw [hv] at M
  rw [ho]
  refine W.widen (k := 19) (n := 1417) (Nat.le_of_ble_eq_true rfl) (Nat.le_of_ble_eq_true rfl) ?_
  refine lv_dup hx hb dX9_init_68 rfl ?_
  obtain ⟨S69, hcl, hF⟩ := ob hF
  refine go_AV (r_IN (rest := [.ref (ad o65), .ref (ad x0)]) (As := []) C0 cb_X9_48 (tX4_init l D cy ad A K0 hA hs hcl) (pre_A C0 hE M) hl dX9_init_69 rfl (Nat.le_of_ble_eq_true rfl) ⟨rfl, rfl⟩ ⟨Nat.le_of_ble_eq_true rfl, Nat.le_of_ble_eq_true rfl⟩ ⟨Nat.le_of_ble_eq_true rfl, Nat.le_of_ble_eq_true rfl⟩ rfl) M (fun H locs M => ?_)
  refine W.widen (k := 33) (n := 1650) (Nat.le_of_ble_eq_true rfl) (Nat.le_of_ble_eq_true rfl) ?_
  obtain ⟨S72, hv, hF⟩ := ob hF
  refine k_sPF C0 M hin rfl hv fl_X9_49 dX9_init_72 (fun H locs M => ?_)
  refine lv_aload_n hx hb dX9_init_75 rfl (lv_at hl 0 rfl) ?_
  refine lv_iconst (v := (4 : Int32)) hx hb dX9_init_76 (by decide) ?_
  refine lv_sipush (v := (144 : Int32)) hx hb dX9_init_77 (by decide) ?_
  obtain ⟨o80, ho, hF⟩ := ob hF
  obtain ⟨S80, hv, hF⟩ := ob hF
  have ho := vtI ho
  have hv := vtI hv
  refine k_grid (N := 4) (K := 144) C0 M hA hs (uw_of 268 (by decide +kernel) rfl) (uw_of 256 (by decide +kernel) rfl) (uw_of 185 (by decide +kernel) rfl) (by decide) (by decide) rfl rfl (Nat.le_of_ble_eq_true rfl) (Nat.le_of_ble_eq_true rfl) (Nat.le_of_ble_eq_true rfl) (Nat.le_of_ble_eq_true rfl) dX9_init_80 (fun H M => ?_)
  rw [hv] at M
  rw [ho]
  refine W.widen (k := 38) (n := 2230) (Nat.le_of_ble_eq_true rfl) (Nat.le_of_ble_eq_true rfl) ?_
  obtain ⟨S84, hv, hF⟩ := ob hF
  refine k_sPF C0 M hin rfl hv fl_X9_55 dX9_init_84 (fun H locs M => ?_)
  refine lv_aload_n hx hb dX9_init_87 rfl (lv_at hl 0 rfl) ?_
  refine lv_iconst (v := (4 : Int32)) hx hb dX9_init_88 (by decide) ?_
  obtain ⟨n89, hn, hF⟩ := ob hF
  obtain ⟨o89, ho, hF⟩ := ob hF
  obtain ⟨S89, hv, hF⟩ := ob hF
  have ho := vtI ho
  have hv := vtI hv
  refine k_newI (atype := .boolean) (ty := .boolean) (kd := 13) 1 C0 M hA hs rfl (uw_of 230 (by decide +kernel) rfl) rfl (by decide) rfl rfl hn (Nat.le_of_ble_eq_true rfl) (Nat.le_of_ble_eq_true rfl) (Nat.le_of_ble_eq_true rfl) dX9_init_89 (fun H M => ?_)
  rw [hv] at M
  rw [ho]
  refine W.widen (k := 39) (n := 2234) (Nat.le_of_ble_eq_true rfl) (Nat.le_of_ble_eq_true rfl) ?_
  obtain ⟨S91, hv, hF⟩ := ob hF
  refine k_sPF C0 M hin rfl hv fl_X9_58 dX9_init_91 (fun H locs M => ?_)
  refine lv_aload_n hx hb dX9_init_94 rfl (lv_at hl 0 rfl) ?_
  obtain ⟨o95, ho, hF⟩ := ob hF
  obtain ⟨S95, hv, hF⟩ := ob hF
  have ho := vtI ho
  have hv := vtI hv
  refine k_new C0 M hA hs nw_X9_29 (Nat.le_of_ble_eq_true rfl) (Nat.le_of_ble_eq_true rfl) dX9_init_95 (fun H M => ?_)
  rw [hv] at M
  rw [ho]
  refine W.widen (k := 40) (n := 2237) (Nat.le_of_ble_eq_true rfl) (Nat.le_of_ble_eq_true rfl) ?_
  refine lv_dup hx hb dX9_init_98 rfl ?_
  obtain ⟨S99, hcl, hF⟩ := ob hF
  refine go_AV (r_I (rest := [.ref (ad o95), .ref (ad x0)]) (As := []) C0 cb_X9_31 (tJx4a65c_init_da8c8 l D cy ad A K0 hA hs hcl) (pre_A C0 hE M) hl dX9_init_99 rfl (Nat.le_of_ble_eq_true rfl) ⟨rfl, rfl⟩ ⟨Nat.le_of_ble_eq_true rfl, Nat.le_of_ble_eq_true rfl⟩ ⟨Nat.le_of_ble_eq_true rfl, Nat.le_of_ble_eq_true rfl⟩ rfl) M (fun H locs M => ?_)
  refine W.widen (k := 40) (n := 2237) (Nat.le_of_ble_eq_true rfl) (Nat.le_of_ble_eq_true rfl) ?_
  obtain ⟨S102, hv, hF⟩ := ob hF
  refine k_sPF C0 M hin rfl hv fl_X9_62 dX9_init_102 (fun H locs M => ?_)
  refine lv_aload_n hx hb dX9_init_105 rfl (lv_at hl 0 rfl) ?_
  refine lv_iconst (v := (4 : Int32)) hx hb dX9_init_106 (by decide) ?_
  obtain ⟨n107, hn, hF⟩ := ob hF
  obtain ⟨o107, ho, hF⟩ := ob hF
  obtain ⟨S107, hv, hF⟩ := ob hF
  have ho := vtI ho
  have hv := vtI hv
  refine k_newQ (C := "ChartRoom$Sheet") (kd := 14) 2 C0 M hA hs (uw_of 269 (by decide +kernel) rfl) (uw_of 270 (by decide +kernel) rfl) rfl (by decide) hn (Nat.le_of_ble_eq_true rfl) (Nat.le_of_ble_eq_true rfl) (Nat.le_of_ble_eq_true rfl) dX9_init_107 (fun H M => ?_)
  rw [hv] at M
  rw [ho]
  refine W.widen (k := 41) (n := 2241) (Nat.le_of_ble_eq_true rfl) (Nat.le_of_ble_eq_true rfl) ?_
  obtain ⟨S110, hv, hF⟩ := ob hF
  refine k_sPF C0 M hin rfl hv fl_X9_67 dX9_init_110 (fun H locs M => ?_)
  refine lv_iconst (v := (0 : Int32)) hx hb dX9_init_113 (by decide) ?_
  refine lv_istore_n (lv' := [(1, .int (0 : Int32)), (0, .ref (ad x0))]) hx hb dX9_init_114 rfl hl (by decide) rfl (fun ls hl => ?_)
  refine lv_iload_n hx hb dX9_init_115 rfl (lv_at hl 0 rfl) ?_
  refine lv_iconst (v := (4 : Int32)) hx hb dX9_init_116 (by decide) ?_
  refine lv_icmp_ge (tgt := 139) hx hb dX9_init_117 (by decide) (fun hc => absurd hc (by decide)) (fun hc => ?_)
  refine lv_aload_n hx hb dX9_init_120 rfl (lv_at hl 1 rfl) ?_
  obtain ⟨v121, hv, hF⟩ := ob hF
  refine k_getP C0 M.1 hv fl_X9_67 dX9_init_121 ?_
  refine lv_iload_n hx hb dX9_init_124 rfl (lv_at hl 0 rfl) ?_
  obtain ⟨o125, ho, hF⟩ := ob hF
  obtain ⟨S125, hv, hF⟩ := ob hF
  have ho := vtI ho
  have hv := vtI hv
  refine k_new C0 M hA hs nw_X9_65 (Nat.le_of_ble_eq_true rfl) (Nat.le_of_ble_eq_true rfl) dX9_init_125 (fun H M => ?_)
  rw [hv] at M
  rw [ho]
  refine W.widen (k := 42) (n := 2244) (Nat.le_of_ble_eq_true rfl) (Nat.le_of_ble_eq_true rfl) ?_
  refine lv_dup hx hb dX9_init_128 rfl ?_
  obtain ⟨S129, hcl, hF⟩ := ob hF
  refine go_AV (r_IN (rest := [.ref (ad o125), .int (0 : Int32), .ref (ad v121)]) (As := []) C0 cb_X9_71 (tX7_init l D cy ad A K0 hA hs hcl) (pre_A C0 hE M) hl dX9_init_129 rfl (Nat.le_of_ble_eq_true rfl) ⟨rfl, rfl⟩ ⟨Nat.le_of_ble_eq_true rfl, Nat.le_of_ble_eq_true rfl⟩ ⟨Nat.le_of_ble_eq_true rfl, Nat.le_of_ble_eq_true rfl⟩ rfl) M (fun H locs M => ?_)
  refine W.widen (k := 43) (n := 2304) (Nat.le_of_ble_eq_true rfl) (Nat.le_of_ble_eq_true rfl) ?_
  obtain ⟨S132, hv, hF⟩ := ob hF
  refine k_stP 2 (C := "ChartRoom$Sheet") (Ck := RX7) (T := TX7) (N := 3) C0 M (by decide) rfl (by decide) rfl (Or.inl rfl) hv dX9_init_132 (fun H locs M => ?_)
  refine lv_iinc (v := (1 : Int32)) (lv' := [(1, .int (1 : Int32)), (0, .ref (ad x0))]) hx hb dX9_init_133 hl (k := 0) rfl rfl (by decide) rfl (fun ls hl => ?_)
  refine lv_goto (tgt := 115) hx hb dX9_init_136 (by decide) ?_
  refine lv_iload_n hx hb dX9_init_115 rfl (lv_at hl 0 rfl) ?_
  refine lv_iconst (v := (4 : Int32)) hx hb dX9_init_116 (by decide) ?_
  refine lv_icmp_ge (tgt := 139) hx hb dX9_init_117 (by decide) (fun hc => absurd hc (by decide)) (fun hc => ?_)
  refine lv_aload_n hx hb dX9_init_120 rfl (lv_at hl 1 rfl) ?_
  obtain ⟨v121, hv, hF⟩ := ob hF
  refine k_getP C0 M.1 hv fl_X9_67 dX9_init_121 ?_
  refine lv_iload_n hx hb dX9_init_124 rfl (lv_at hl 0 rfl) ?_
  obtain ⟨o125, ho, hF⟩ := ob hF
  obtain ⟨S125, hv, hF⟩ := ob hF
  have ho := vtI ho
  have hv := vtI hv
  refine k_new C0 M hA hs nw_X9_65 (Nat.le_of_ble_eq_true rfl) (Nat.le_of_ble_eq_true rfl) dX9_init_125 (fun H M => ?_)
  rw [hv] at M
  rw [ho]
  refine W.widen (k := 44) (n := 2307) (Nat.le_of_ble_eq_true rfl) (Nat.le_of_ble_eq_true rfl) ?_
  refine lv_dup hx hb dX9_init_128 rfl ?_
  obtain ⟨S129, hcl, hF⟩ := ob hF
  refine go_AV (r_IN (rest := [.ref (ad o125), .int (1 : Int32), .ref (ad v121)]) (As := []) C0 cb_X9_71 (tX7_init l D cy ad A K0 hA hs hcl) (pre_A C0 hE M) hl dX9_init_129 rfl (Nat.le_of_ble_eq_true rfl) ⟨rfl, rfl⟩ ⟨Nat.le_of_ble_eq_true rfl, Nat.le_of_ble_eq_true rfl⟩ ⟨Nat.le_of_ble_eq_true rfl, Nat.le_of_ble_eq_true rfl⟩ rfl) M (fun H locs M => ?_)
  refine W.widen (k := 45) (n := 2367) (Nat.le_of_ble_eq_true rfl) (Nat.le_of_ble_eq_true rfl) ?_
  obtain ⟨S132, hv, hF⟩ := ob hF
  refine k_stP 2 (C := "ChartRoom$Sheet") (Ck := RX7) (T := TX7) (N := 3) C0 M (by decide) rfl (by decide) rfl (Or.inl rfl) hv dX9_init_132 (fun H locs M => ?_)
  refine lv_iinc (v := (2 : Int32)) (lv' := [(1, .int (2 : Int32)), (0, .ref (ad x0))]) hx hb dX9_init_133 hl (k := 0) rfl rfl (by decide) rfl (fun ls hl => ?_)
  refine lv_goto (tgt := 115) hx hb dX9_init_136 (by decide) ?_
  refine lv_iload_n hx hb dX9_init_115 rfl (lv_at hl 0 rfl) ?_
  refine lv_iconst (v := (4 : Int32)) hx hb dX9_init_116 (by decide) ?_
  refine lv_icmp_ge (tgt := 139) hx hb dX9_init_117 (by decide) (fun hc => absurd hc (by decide)) (fun hc => ?_)
  refine lv_aload_n hx hb dX9_init_120 rfl (lv_at hl 1 rfl) ?_
  obtain ⟨v121, hv, hF⟩ := ob hF
  refine k_getP C0 M.1 hv fl_X9_67 dX9_init_121 ?_
  refine lv_iload_n hx hb dX9_init_124 rfl (lv_at hl 0 rfl) ?_
  obtain ⟨o125, ho, hF⟩ := ob hF
  obtain ⟨S125, hv, hF⟩ := ob hF
  have ho := vtI ho
  have hv := vtI hv
  refine k_new C0 M hA hs nw_X9_65 (Nat.le_of_ble_eq_true rfl) (Nat.le_of_ble_eq_true rfl) dX9_init_125 (fun H M => ?_)
  rw [hv] at M
  rw [ho]
  refine W.widen (k := 46) (n := 2370) (Nat.le_of_ble_eq_true rfl) (Nat.le_of_ble_eq_true rfl) ?_
  refine lv_dup hx hb dX9_init_128 rfl ?_
  obtain ⟨S129, hcl, hF⟩ := ob hF
  refine go_AV (r_IN (rest := [.ref (ad o125), .int (2 : Int32), .ref (ad v121)]) (As := []) C0 cb_X9_71 (tX7_init l D cy ad A K0 hA hs hcl) (pre_A C0 hE M) hl dX9_init_129 rfl (Nat.le_of_ble_eq_true rfl) ⟨rfl, rfl⟩ ⟨Nat.le_of_ble_eq_true rfl, Nat.le_of_ble_eq_true rfl⟩ ⟨Nat.le_of_ble_eq_true rfl, Nat.le_of_ble_eq_true rfl⟩ rfl) M (fun H locs M => ?_)
  refine W.widen (k := 47) (n := 2430) (Nat.le_of_ble_eq_true rfl) (Nat.le_of_ble_eq_true rfl) ?_
  obtain ⟨S132, hv, hF⟩ := ob hF
  refine k_stP 2 (C := "ChartRoom$Sheet") (Ck := RX7) (T := TX7) (N := 3) C0 M (by decide) rfl (by decide) rfl (Or.inl rfl) hv dX9_init_132 (fun H locs M => ?_)
  refine lv_iinc (v := (3 : Int32)) (lv' := [(1, .int (3 : Int32)), (0, .ref (ad x0))]) hx hb dX9_init_133 hl (k := 0) rfl rfl (by decide) rfl (fun ls hl => ?_)
  refine lv_goto (tgt := 115) hx hb dX9_init_136 (by decide) ?_
  refine lv_iload_n hx hb dX9_init_115 rfl (lv_at hl 0 rfl) ?_
  refine lv_iconst (v := (4 : Int32)) hx hb dX9_init_116 (by decide) ?_
  refine lv_icmp_ge (tgt := 139) hx hb dX9_init_117 (by decide) (fun hc => absurd hc (by decide)) (fun hc => ?_)
  refine lv_aload_n hx hb dX9_init_120 rfl (lv_at hl 1 rfl) ?_
  obtain ⟨v121, hv, hF⟩ := ob hF
  refine k_getP C0 M.1 hv fl_X9_67 dX9_init_121 ?_
  refine lv_iload_n hx hb dX9_init_124 rfl (lv_at hl 0 rfl) ?_
  obtain ⟨o125, ho, hF⟩ := ob hF
  obtain ⟨S125, hv, hF⟩ := ob hF
  have ho := vtI ho
  have hv := vtI hv
  refine k_new C0 M hA hs nw_X9_65 (Nat.le_of_ble_eq_true rfl) (Nat.le_of_ble_eq_true rfl) dX9_init_125 (fun H M => ?_)
  rw [hv] at M
  rw [ho]
  refine W.widen (k := 48) (n := 2433) (Nat.le_of_ble_eq_true rfl) (Nat.le_of_ble_eq_true rfl) ?_
  refine lv_dup hx hb dX9_init_128 rfl ?_
  obtain ⟨S129, hcl, hF⟩ := ob hF
  refine go_AV (r_IN (rest := [.ref (ad o125), .int (3 : Int32), .ref (ad v121)]) (As := []) C0 cb_X9_71 (tX7_init l D cy ad A K0 hA hs hcl) (pre_A C0 hE M) hl dX9_init_129 rfl (Nat.le_of_ble_eq_true rfl) ⟨rfl, rfl⟩ ⟨Nat.le_of_ble_eq_true rfl, Nat.le_of_ble_eq_true rfl⟩ ⟨Nat.le_of_ble_eq_true rfl, Nat.le_of_ble_eq_true rfl⟩ rfl) M (fun H locs M => ?_)
  refine W.widen (k := 49) (n := 2493) (Nat.le_of_ble_eq_true rfl) (Nat.le_of_ble_eq_true rfl) ?_
  obtain ⟨S132, hv, hF⟩ := ob hF
  refine k_stP 2 (C := "ChartRoom$Sheet") (Ck := RX7) (T := TX7) (N := 3) C0 M (by decide) rfl (by decide) rfl (Or.inl rfl) hv dX9_init_132 (fun H locs M => ?_)
  refine lv_iinc (v := (4 : Int32)) (lv' := [(1, .int (4 : Int32)), (0, .ref (ad x0))]) hx hb dX9_init_133 hl (k := 0) rfl rfl (by decide) rfl (fun ls hl => ?_)
  refine lv_goto (tgt := 115) hx hb dX9_init_136 (by decide) ?_
  refine lv_iload_n hx hb dX9_init_115 rfl (lv_at hl 0 rfl) ?_
  refine lv_iconst (v := (4 : Int32)) hx hb dX9_init_116 (by decide) ?_
  refine lv_icmp_ge (tgt := 139) hx hb dX9_init_117 (by decide) (fun hc => ?_) (fun hc => absurd (by decide) hc)
  refine lv_aload_n hx hb dX9_init_139 rfl (lv_at hl 1 rfl) ?_
  refine lv_iconst (v := (0 : Int32)) hx hb dX9_init_140 (by decide) ?_
  obtain ⟨S141, hv, hF⟩ := ob hF
  refine k_sI C0 M hv fl_X9_72 dX9_init_141 (fun H locs M => ?_)
  refine lv_aload_n hx hb dX9_init_144 rfl (lv_at hl 1 rfl) ?_
  refine lv_iconst (v := (0 : Int32)) hx hb dX9_init_145 (by decide) ?_
  obtain ⟨S146, hv, hF⟩ := ob hF
  refine k_sI C0 M hv fl_X9_76 dX9_init_146 (fun H locs M => ?_)
  obtain rfl := (Option.some.inj hF)
  exact rt_AV C0 M hr dX9_init_149
set_option maxHeartbeats 4000000 in
set_option maxRecDepth 100000 in
theorem tX9_init (l : Launch) (D : va_G) (cy : Nat → ClassId) (ad : Nat → Nat) (A : Nat → Prop) (K0 : Nat) (hA : ∀ k, 0 < k → A (ad k)) (hs : ∀ k, K0 ≤ k → ad (k + 1) + 1 = ad (k + 2)) {S S' : MS} {a0 : Nat} (h : fX9_init S a0 = some S') : Met l yX9_init [Cond.code yX9_init cX9_init 2 (none)] rmX9_init (PcA D cy ad A K0 S [.ref (ad a0)]) (QcA D cy ad A K0 S' (none)) 49 2493 A := by
  refine met_A (by decide +kernel) cw_X9_init (Nat.le_of_ble_eq_true rfl) ?_
  intro p e s m args below meth c ls C0 hE M hr hin hl
  have hl : lv_has ls 2 [(0, .ref (ad a0))] := hl
  exact wX9_init_0 ad A C0 hA hs hE M hr hin h hl
