def m_0 : MS := (0, fun _ => 0, fun _ => 0, fun _ _ => 0, fun _ _ => 0, fun _ _ => none)
def m_closed (S : MS) : Prop := ∀ a j q, m_P S a j = some q → q ≤ m_n S
theorem m_ws_ad {cy : Nat → ClassId} {ad ad' : Nat → Nat} {S : MS} (hc : m_closed S) (h : ∀ k, k ≤ m_n S → ad k = ad' k) : m_ws cy ad S = m_ws cy ad' S := by
  have hP : ∀ a j, (m_P S a j).map ad = (m_P S a j).map ad' := fun a j => by
    cases hq : m_P S a j with
    | none => rfl
    | some q => exact congrArg some (h q (hc a j q hq))
  unfold m_ws
  refine List.map_congr_left fun k hk => ?_
  have hk := List.mem_range.mp hk
  rw [h (k + 1) hk]
  congr 1
  unfold m_ce c_ce
  have e1 : ∀ (ts : List Nat) (x : Nat), c_fs ad (m_I S (k + 1)) (m_J S (k + 1)) (m_P S (k + 1)) ts x = c_fs ad' (m_I S (k + 1)) (m_J S (k + 1)) (m_P S (k + 1)) ts x := by
    intro ts
    induction ts with
    | nil => intro x; rfl
    | cons t ts ih =>
      intro x
      unfold c_fs
      rw [ih (x + 1)]
      congr 1
      unfold c_fv va_re
      rw [hP]
  rw [e1]
  have e2 : (fun x => (m_P S (k + 1) x).map ad) = fun x => (m_P S (k + 1) x).map ad' := funext fun x => hP _ x
  rw [e2]
theorem gx_back {w : Cond} (hg : gx_word w = true) {s : State} {args : Array Value} (h : w.before args s = true) : w.before #[] s = true := by
  unfold gx_word at hg
  split at hg
  · exact va_Nw.of rfl h
  · exact va_Nw.of rfl h
  · exact va_Nw.of rfl h
  · exact va_AO.of h
  · exact h
  · exact word_at (State.WarmedH.refl s) (good_of_word hg) h
theorem go_lt {L t : Nat} (hL : L ≤ 4608) (ht : t ≤ 4608) (h : ¬ nI L - (9 : Int32) < nI t) : t + 9 ≤ L := by
  have h1 : (nI L - (9 : Int32)).toInt = (L : Int) - 9 := pk_sub_toInt (a := L) (b := 9) (by omega) (by omega)
  have h2 := Int32.not_lt.mp h
  have h3 := Int32.le_iff_toInt_le.mp h2
  rw [h1, nI_toInt (by omega)] at h3
  omega
theorem LA_lo {H0 : Heap} {AC AR : Nat → Prop} (h : LA H0 AC AR) : True := trivial
def LawAll (Inv : MS → MS → Prop) : Prop := E_0 Inv ∧ E_1 Inv ∧ E_2 Inv ∧ E_3 Inv ∧ E_4 Inv ∧ E_5 Inv ∧ E_6 Inv ∧ E_7 Inv ∧ E_8 Inv ∧ E_9 Inv ∧ E_10 Inv ∧ E_11 Inv ∧ E_12 Inv ∧ E_13 Inv ∧ E_14 Inv ∧ E_15 Inv ∧ E_16 Inv ∧ E_17 Inv ∧ E_18 Inv ∧ E_19 Inv ∧ E_20 Inv ∧ E_21 Inv ∧ E_22 Inv ∧ E_23 Inv ∧ E_24 Inv ∧ E_25 Inv ∧ E_26 Inv ∧ E_27 Inv ∧ E_28 Inv ∧ E_29 Inv ∧ E_30 Inv ∧ E_31 Inv ∧ E_32 Inv ∧ E_33 Inv ∧ E_34 Inv ∧ E_35 Inv ∧ E_36 Inv ∧ E_37 Inv ∧ E_38 Inv
set_option maxHeartbeats 4000000 in
set_option maxRecDepth 100000 in
theorem law_turn {p : Program} {l : Launch} {e : Env} {s : State} {m : MethodId} {below : List Frame} {meth : Method} {c : Code} {D : va_G} {cy : Nat → ClassId} {adC adR : Nat → Nat} {AC AR : Nat → Prop} {K0 b L : Nat} {xs : Nat → Int32} {Inv : MS → MS → Prop} (C0 : CX p s m #[Value.ref b] meth c R_law cL_law 4 D cy) (hX : va_X b L xs s s.heap) (hbl : b < s.heap.size) (hbA : ¬ s.heap.size ≤ b) (hE : EX adC (fun q => s.heap.size ≤ q) s) (hL : LA s.heap AC AR) (hA : ∀ k, 0 < k → AC (adC k)) (hs : ∀ k, K0 ≤ k → adC (k + 1) + 1 = adC (k + 2)) (hI : ∀ SC SR, Inv SC SR → o_is SC 1 10 = some 1 ∧ o_is SR 1 11 = some 1) (hAll : LawAll Inv) (hLb : L ≤ 4608) : ∀ (n t : Nat), 512 < n + t → ∀ {SC SR : MS} (hInv : Inv SC SR) {H : Heap} {locs : List Loc} (M : LW D cy adC AC adR AR s.heap K0 SC SR H locs) {ls : Array Slot} (hl : lv_has ls 4 [(0, .ref b), (1, .ref (adC 1)), (2, .ref (adR 1)), (3, .int (nI (9 * t)))]) (ht : 9 * t ≤ L) (hrt : meth.sig.returnType = ret), W p l e room_1 s m #[Value.ref b] below meth c H locs (93 + t * 5) (5661 + t * 64) (lw_Z below #[Value.ref b] s) (F0 m 18 ls []) := by
  obtain ⟨hx, hb, -, hown, -, hts, hlk⟩ := id C0
  obtain ⟨e0, e1, e2, e3, e4, e5, e6, e7, e8, e9, e10, e11, e12, e13, e14, e15, e16, e17, e18, e19, e20, e21, e22, e23, e24, e25, e26, e27, e28, e29, e30, e31, e32, e33, e34, e35, e36, e37, e38⟩ := hAll
  intro n
  induction n with
  | zero =>
    intro t h SC SR hInv H locs M ls hl ht hrt
    exfalso
    omega
  | succ n ih =>
    intro t hn SC SR hInv H locs M ls hl ht hrt
    refine lv_iload_n hx hb dL_law_18 rfl (lv_at hl 3 rfl) ?_
    refine lv_aload_n hx hb dL_law_19 rfl (lv_at hl 0 rfl) ?_
    refine va_slen hx hb hX hbl hbA M.2.2.1 dL_law_20 ?_
    refine lv_bipush (v := (9 : Int32)) hx hb dL_law_21 (by decide) ?_
    refine lv_isub hx hb dL_law_23 ?_
    refine lv_icmp_gt (tgt := 1619) hx hb dL_law_24 (by decide) (fun hc => ?_) (fun hc => ?_)
    · refine lv_iconst (v := (1 : Int32)) hx hb dL_law_1619 (by decide) ?_
      refine va_forget (fun q hq => M.2.2.1.2.2 q hq) ?_
      refine W.widen (k := 600000) (n := 7302250) (by omega) (by omega) ?_
      exact lw_ret hx hb hrt hlk dL_law_1620
    · have h9 : 9 * t + 9 ≤ L := go_lt hLb (by omega) hc
      have hin : ∀ j, j < 9 → vp_in (nI (9 * t) + nI j) L := fun j hj => by
        rw [nI_add]
        exact vp_in_nI (by omega) (by omega)
      have hval : ∀ j, j < 9 → xs (nI (9 * t) + nI j).toNatClampNeg = (fun j => xs (9 * t + j)) j := fun j hj => by
        rw [nI_add, nI_clamp (by omega)]
      generalize hg : (fun j => xs (9 * t + j)) = g at hval
      have hi0 : vp_in (nI (9 * t)) L := vp_in_nI (by omega) (by omega)
      have hv0 : xs (nI (9 * t)).toNatClampNeg = g 0 := by rw [nI_clamp (by omega), ← hg]; rfl
      have hcc : 93 + t * 5 + 5 ≤ 600000 ∧ 5661 + t * 64 + 64 ≤ 7302250 := by omega
      have K : ∀ (SC' SR' : MS) (H : Heap) (locs : List Loc), Inv SC' SR' → LW D cy adC AC adR AR s.heap K0 SC' SR' H locs → W p l e room_1 s m #[Value.ref b] below meth c H locs (93 + t * 5 + 5) (5661 + t * 64 + 64) (lw_Z below #[Value.ref b] s) (F0 m 1613 ls []) := by
        intro SC' SR' H' locs' hInv' M'
        refine lv_iinc (v := nI (9 * (t + 1))) (lv' := [(3, .int (nI (9 * (t + 1)))), (0, .ref b), (1, .ref (adC 1)), (2, .ref (adR 1))]) hx hb dL_law_1613 hl (k := 3) rfl (nI_add (9 * t) 9) (by decide) rfl (fun ls hl => ?_)
        refine lv_goto (tgt := 18) hx hb dL_law_1616 (by decide) ?_
        have h := ih (t + 1) (by omega) hInv' M' (lv_sub hl [1, 2, 3, 0] rfl) (by omega) hrt
        refine W.widen (k := 93 + (t + 1) * 5) (n := 5661 + (t + 1) * 64) (by omega) (by omega) h
      refine lv_aload_n hx hb dL_law_27 rfl (lv_at hl 0 rfl) ?_
      refine lv_iload_n hx hb dL_law_28 rfl (lv_at hl 3 rfl) ?_
      refine va_sld hx hb hX hbl hbA M.2.2.1 hi0 dL_law_29 ?_
      refine vtopi hv0 ?_
      refine lv_bipush (v := (63 : Int32)) hx hb dL_law_30 (by decide) ?_
      refine lv_iand hx hb dL_law_32 ?_
      generalize hx0 : g 0 &&& (63 : Int32) = x0
      by_cases hc0 : x0 = (0 : Int32)
      · refine lv_tableIn (tgt := 204) (off := 171) hx hb dL_law_33 (by rw [hc0]; decide) (by rw [hc0]; decide) (by rw [hc0]; rfl) (by decide) ?_
        exact wLaw_0 C0 hX hbl hbA hE hL hA hs hI hInv M hcc hin hval hl e0 K
      by_cases hc1 : x0 = (1 : Int32)
      · refine lv_tableIn (tgt := 279) (off := 246) hx hb dL_law_33 (by rw [hc1]; decide) (by rw [hc1]; decide) (by rw [hc1]; rfl) (by decide) ?_
        exact wLaw_1 C0 hX hbl hbA hE hL hA hs hI hInv M hcc hin hval hl e1 K
      by_cases hc2 : x0 = (2 : Int32)
      · refine lv_tableIn (tgt := 312) (off := 279) hx hb dL_law_33 (by rw [hc2]; decide) (by rw [hc2]; decide) (by rw [hc2]; rfl) (by decide) ?_
        exact wLaw_2 C0 hX hbl hbA hE hL hA hs hI hInv M hcc hin hval hl e2 K
      by_cases hc3 : x0 = (3 : Int32)
      · refine lv_tableIn (tgt := 345) (off := 312) hx hb dL_law_33 (by rw [hc3]; decide) (by rw [hc3]; decide) (by rw [hc3]; rfl) (by decide) ?_
        exact wLaw_3 C0 hX hbl hbA hE hL hA hs hI hInv M hcc hin hval hl e3 K
      by_cases hc4 : x0 = (4 : Int32)
      · refine lv_tableIn (tgt := 420) (off := 387) hx hb dL_law_33 (by rw [hc4]; decide) (by rw [hc4]; decide) (by rw [hc4]; rfl) (by decide) ?_
        exact wLaw_4 C0 hX hbl hbA hE hL hA hs hI hInv M hcc hin hval hl e4 K
      by_cases hc5 : x0 = (5 : Int32)
      · refine lv_tableIn (tgt := 453) (off := 420) hx hb dL_law_33 (by rw [hc5]; decide) (by rw [hc5]; decide) (by rw [hc5]; rfl) (by decide) ?_
        exact wLaw_5 C0 hX hbl hbA hE hL hA hs hI hInv M hcc hin hval hl e5 K
      by_cases hc6 : x0 = (6 : Int32)
      · refine lv_tableIn (tgt := 496) (off := 463) hx hb dL_law_33 (by rw [hc6]; decide) (by rw [hc6]; decide) (by rw [hc6]; rfl) (by decide) ?_
        exact wLaw_6 C0 hX hbl hbA hE hL hA hs hI hInv M hcc hin hval hl e6 K
      by_cases hc7 : x0 = (7 : Int32)
      · refine lv_tableIn (tgt := 529) (off := 496) hx hb dL_law_33 (by rw [hc7]; decide) (by rw [hc7]; decide) (by rw [hc7]; rfl) (by decide) ?_
        exact wLaw_7 C0 hX hbl hbA hE hL hA hs hI hInv M hcc hin hval hl e7 K
      by_cases hc8 : x0 = (8 : Int32)
      · refine lv_tableIn (tgt := 572) (off := 539) hx hb dL_law_33 (by rw [hc8]; decide) (by rw [hc8]; decide) (by rw [hc8]; rfl) (by decide) ?_
        exact wLaw_8 C0 hX hbl hbA hE hL hA hs hI hInv M hcc hin hval hl e8 K
      by_cases hc9 : x0 = (9 : Int32)
      · refine lv_tableIn (tgt := 605) (off := 572) hx hb dL_law_33 (by rw [hc9]; decide) (by rw [hc9]; decide) (by rw [hc9]; rfl) (by decide) ?_
        exact wLaw_9 C0 hX hbl hbA hE hL hA hs hI hInv M hcc hin hval hl e9 K
      by_cases hc10 : x0 = (10 : Int32)
      · refine lv_tableIn (tgt := 628) (off := 595) hx hb dL_law_33 (by rw [hc10]; decide) (by rw [hc10]; decide) (by rw [hc10]; rfl) (by decide) ?_
        exact wLaw_10 C0 hX hbl hbA hE hL hA hs hI hInv M hcc hin hval hl e10 K
      by_cases hc11 : x0 = (11 : Int32)
      · refine lv_tableIn (tgt := 651) (off := 618) hx hb dL_law_33 (by rw [hc11]; decide) (by rw [hc11]; decide) (by rw [hc11]; rfl) (by decide) ?_
        exact wLaw_11 C0 hX hbl hbA hE hL hA hs hI hInv M hcc hin hval hl e11 K
      by_cases hc12 : x0 = (12 : Int32)
      · refine lv_tableIn (tgt := 674) (off := 641) hx hb dL_law_33 (by rw [hc12]; decide) (by rw [hc12]; decide) (by rw [hc12]; rfl) (by decide) ?_
        exact wLaw_12 C0 hX hbl hbA hE hL hA hs hI hInv M hcc hin hval hl e12 K
      by_cases hc13 : x0 = (13 : Int32)
      · refine lv_tableIn (tgt := 697) (off := 664) hx hb dL_law_33 (by rw [hc13]; decide) (by rw [hc13]; decide) (by rw [hc13]; rfl) (by decide) ?_
        exact wLaw_13 C0 hX hbl hbA hE hL hA hs hI hInv M hcc hin hval hl e13 K
      by_cases hc14 : x0 = (14 : Int32)
      · refine lv_tableIn (tgt := 730) (off := 697) hx hb dL_law_33 (by rw [hc14]; decide) (by rw [hc14]; decide) (by rw [hc14]; rfl) (by decide) ?_
        exact wLaw_14 C0 hX hbl hbA hE hL hA hs hI hInv M hcc hin hval hl e14 K
      by_cases hc15 : x0 = (15 : Int32)
      · refine lv_tableIn (tgt := 743) (off := 710) hx hb dL_law_33 (by rw [hc15]; decide) (by rw [hc15]; decide) (by rw [hc15]; rfl) (by decide) ?_
        exact wLaw_15 C0 hX hbl hbA hE hL hA hs hI hInv M hcc hin hval hl e15 K
      by_cases hc16 : x0 = (16 : Int32)
      · refine lv_tableIn (tgt := 776) (off := 743) hx hb dL_law_33 (by rw [hc16]; decide) (by rw [hc16]; decide) (by rw [hc16]; rfl) (by decide) ?_
        exact wLaw_16 C0 hX hbl hbA hE hL hA hs hI hInv M hcc hin hval hl e16 K
      by_cases hc17 : x0 = (17 : Int32)
      · refine lv_tableIn (tgt := 809) (off := 776) hx hb dL_law_33 (by rw [hc17]; decide) (by rw [hc17]; decide) (by rw [hc17]; rfl) (by decide) ?_
        exact wLaw_17 C0 hX hbl hbA hE hL hA hs hI hInv M hcc hin hval hl e17 K
      by_cases hc18 : x0 = (18 : Int32)
      · refine lv_tableIn (tgt := 908) (off := 875) hx hb dL_law_33 (by rw [hc18]; decide) (by rw [hc18]; decide) (by rw [hc18]; rfl) (by decide) ?_
        exact wLaw_18 C0 hX hbl hbA hE hL hA hs hI hInv M hcc hin hval hl e18 K
      by_cases hc19 : x0 = (19 : Int32)
      · refine lv_tableIn (tgt := 951) (off := 918) hx hb dL_law_33 (by rw [hc19]; decide) (by rw [hc19]; decide) (by rw [hc19]; rfl) (by decide) ?_
        exact wLaw_19 C0 hX hbl hbA hE hL hA hs hI hInv M hcc hin hval hl e19 K
      by_cases hc20 : x0 = (20 : Int32)
      · refine lv_tableIn (tgt := 994) (off := 961) hx hb dL_law_33 (by rw [hc20]; decide) (by rw [hc20]; decide) (by rw [hc20]; rfl) (by decide) ?_
        exact wLaw_20 C0 hX hbl hbA hE hL hA hs hI hInv M hcc hin hval hl e20 K
      by_cases hc21 : x0 = (21 : Int32)
      · refine lv_tableIn (tgt := 1007) (off := 974) hx hb dL_law_33 (by rw [hc21]; decide) (by rw [hc21]; decide) (by rw [hc21]; rfl) (by decide) ?_
        exact wLaw_21 C0 hX hbl hbA hE hL hA hs hI hInv M hcc hin hval hl e21 K
      by_cases hc22 : x0 = (22 : Int32)
      · refine lv_tableIn (tgt := 1020) (off := 987) hx hb dL_law_33 (by rw [hc22]; decide) (by rw [hc22]; decide) (by rw [hc22]; rfl) (by decide) ?_
        exact wLaw_22 C0 hX hbl hbA hE hL hA hs hI hInv M hcc hin hval hl e22 K
      by_cases hc23 : x0 = (23 : Int32)
      · refine lv_tableIn (tgt := 1073) (off := 1040) hx hb dL_law_33 (by rw [hc23]; decide) (by rw [hc23]; decide) (by rw [hc23]; rfl) (by decide) ?_
        exact wLaw_23 C0 hX hbl hbA hE hL hA hs hI hInv M hcc hin hval hl e23 K
      by_cases hc24 : x0 = (24 : Int32)
      · refine lv_tableIn (tgt := 1096) (off := 1063) hx hb dL_law_33 (by rw [hc24]; decide) (by rw [hc24]; decide) (by rw [hc24]; rfl) (by decide) ?_
        exact wLaw_24 C0 hX hbl hbA hE hL hA hs hI hInv M hcc hin hval hl e24 K
      by_cases hc25 : x0 = (25 : Int32)
      · refine lv_tableIn (tgt := 1150) (off := 1117) hx hb dL_law_33 (by rw [hc25]; decide) (by rw [hc25]; decide) (by rw [hc25]; rfl) (by decide) ?_
        exact wLaw_25 C0 hX hbl hbA hE hL hA hs hI hInv M hcc hin hval hl e25 K
      by_cases hc26 : x0 = (26 : Int32)
      · refine lv_tableIn (tgt := 1183) (off := 1150) hx hb dL_law_33 (by rw [hc26]; decide) (by rw [hc26]; decide) (by rw [hc26]; rfl) (by decide) ?_
        exact wLaw_26 C0 hX hbl hbA hE hL hA hs hI hInv M hcc hin hval hl e26 K
      by_cases hc27 : x0 = (27 : Int32)
      · refine lv_tableIn (tgt := 1236) (off := 1203) hx hb dL_law_33 (by rw [hc27]; decide) (by rw [hc27]; decide) (by rw [hc27]; rfl) (by decide) ?_
        exact wLaw_27 C0 hX hbl hbA hE hL hA hs hI hInv M hcc hin hval hl e27 K
      by_cases hc28 : x0 = (28 : Int32)
      · refine lv_tableIn (tgt := 1269) (off := 1236) hx hb dL_law_33 (by rw [hc28]; decide) (by rw [hc28]; decide) (by rw [hc28]; rfl) (by decide) ?_
        exact wLaw_28 C0 hX hbl hbA hE hL hA hs hI hInv M hcc hin hval hl e28 K
      by_cases hc29 : x0 = (29 : Int32)
      · refine lv_tableIn (tgt := 1312) (off := 1279) hx hb dL_law_33 (by rw [hc29]; decide) (by rw [hc29]; decide) (by rw [hc29]; rfl) (by decide) ?_
        exact wLaw_29 C0 hX hbl hbA hE hL hA hs hI hInv M hcc hin hval hl e29 K
      by_cases hc30 : x0 = (30 : Int32)
      · refine lv_tableIn (tgt := 1335) (off := 1302) hx hb dL_law_33 (by rw [hc30]; decide) (by rw [hc30]; decide) (by rw [hc30]; rfl) (by decide) ?_
        exact wLaw_30 C0 hX hbl hbA hE hL hA hs hI hInv M hcc hin hval hl e30 K
      by_cases hc31 : x0 = (31 : Int32)
      · refine lv_tableIn (tgt := 1378) (off := 1345) hx hb dL_law_33 (by rw [hc31]; decide) (by rw [hc31]; decide) (by rw [hc31]; rfl) (by decide) ?_
        exact wLaw_31 C0 hX hbl hbA hE hL hA hs hI hInv M hcc hin hval hl e31 K
      by_cases hc32 : x0 = (32 : Int32)
      · refine lv_tableIn (tgt := 1422) (off := 1389) hx hb dL_law_33 (by rw [hc32]; decide) (by rw [hc32]; decide) (by rw [hc32]; rfl) (by decide) ?_
        exact wLaw_32 C0 hX hbl hbA hE hL hA hs hI hInv M hcc hin hval hl e32 K
      by_cases hc33 : x0 = (33 : Int32)
      · refine lv_tableIn (tgt := 1485) (off := 1452) hx hb dL_law_33 (by rw [hc33]; decide) (by rw [hc33]; decide) (by rw [hc33]; rfl) (by decide) ?_
        exact wLaw_33 C0 hX hbl hbA hE hL hA hs hI hInv M hcc hin hval hl e33 K
      by_cases hc34 : x0 = (34 : Int32)
      · refine lv_tableIn (tgt := 1508) (off := 1475) hx hb dL_law_33 (by rw [hc34]; decide) (by rw [hc34]; decide) (by rw [hc34]; rfl) (by decide) ?_
        exact wLaw_34 C0 hX hbl hbA hE hL hA hs hI hInv M hcc hin hval hl e34 K
      by_cases hc35 : x0 = (35 : Int32)
      · refine lv_tableIn (tgt := 1531) (off := 1498) hx hb dL_law_33 (by rw [hc35]; decide) (by rw [hc35]; decide) (by rw [hc35]; rfl) (by decide) ?_
        exact wLaw_35 C0 hX hbl hbA hE hL hA hs hI hInv M hcc hin hval hl e35 K
      by_cases hc36 : x0 = (36 : Int32)
      · refine lv_tableIn (tgt := 1564) (off := 1531) hx hb dL_law_33 (by rw [hc36]; decide) (by rw [hc36]; decide) (by rw [hc36]; rfl) (by decide) ?_
        exact wLaw_36 C0 hX hbl hbA hE hL hA hs hI hInv M hcc hin hval hl e36 K
      by_cases hc37 : x0 = (37 : Int32)
      · refine lv_tableIn (tgt := 1577) (off := 1544) hx hb dL_law_33 (by rw [hc37]; decide) (by rw [hc37]; decide) (by rw [hc37]; rfl) (by decide) ?_
        exact wLaw_37 C0 hX hbl hbA hE hL hA hs hI hInv M hcc hin hval hl e37 K
      by_cases hc38 : x0 = (38 : Int32)
      · refine lv_tableIn (tgt := 1590) (off := 1557) hx hb dL_law_33 (by rw [hc38]; decide) (by rw [hc38]; decide) (by rw [hc38]; rfl) (by decide) ?_
        exact wLaw_38 C0 hX hbl hbA hE hL hA hs hI hInv M hcc hin hval hl e38 K
      refine lv_tableOut (tgt := 1613) hx hb dL_law_33 (tsw (x := x0) (n := 39) (by decide) (fun k hk => by rcases (show k = 0 ∨ k = 1 ∨ k = 2 ∨ k = 3 ∨ k = 4 ∨ k = 5 ∨ k = 6 ∨ k = 7 ∨ k = 8 ∨ k = 9 ∨ k = 10 ∨ k = 11 ∨ k = 12 ∨ k = 13 ∨ k = 14 ∨ k = 15 ∨ k = 16 ∨ k = 17 ∨ k = 18 ∨ k = 19 ∨ k = 20 ∨ k = 21 ∨ k = 22 ∨ k = 23 ∨ k = 24 ∨ k = 25 ∨ k = 26 ∨ k = 27 ∨ k = 28 ∨ k = 29 ∨ k = 30 ∨ k = 31 ∨ k = 32 ∨ k = 33 ∨ k = 34 ∨ k = 35 ∨ k = 36 ∨ k = 37 ∨ k = 38 by omega) with rfl | rfl | rfl | rfl | rfl | rfl | rfl | rfl | rfl | rfl | rfl | rfl | rfl | rfl | rfl | rfl | rfl | rfl | rfl | rfl | rfl | rfl | rfl | rfl | rfl | rfl | rfl | rfl | rfl | rfl | rfl | rfl | rfl | rfl | rfl | rfl | rfl | rfl | rfl <;> first | exact hc0 | exact hc1 | exact hc2 | exact hc3 | exact hc4 | exact hc5 | exact hc6 | exact hc7 | exact hc8 | exact hc9 | exact hc10 | exact hc11 | exact hc12 | exact hc13 | exact hc14 | exact hc15 | exact hc16 | exact hc17 | exact hc18 | exact hc19 | exact hc20 | exact hc21 | exact hc22 | exact hc23 | exact hc24 | exact hc25 | exact hc26 | exact hc27 | exact hc28 | exact hc29 | exact hc30 | exact hc31 | exact hc32 | exact hc33 | exact hc34 | exact hc35 | exact hc36 | exact hc37 | exact hc38)) (by decide) ?_
      refine W.widen (k := 93 + t * 5 + 5) (n := 5661 + t * 64 + 64) (by omega) (by omega) ?_
      exact K _ _ _ _ hInv M
theorem nw_law_7 : NWF R_law 7 10 13 := ⟨RX9, TX9, tyX9, rfl, iu_10, tyX9_ok, rfl, by decide, (uw_of 105 (by decide +kernel) rfl), (uw_of 106 (by decide +kernel) rfl), (uw_of 84 (by decide +kernel) rfl), by decide⟩
theorem nw_law_10 : NWF R_law 10 11 58 := ⟨RX10, TX10, tyX10, rfl, iu_11, tyX10_ok, rfl, by decide, (uw_of 1065 (by decide +kernel) rfl), (uw_of 1066 (by decide +kernel) rfl), (uw_of 93 (by decide +kernel) rfl), by decide⟩
theorem cb_L_9 : CBI RL 9 yX9_init cX9_init 2 0 := ⟨⟨cw_X9_init, ini_ChartRoom, by decide, (uw_of 107 (by decide +kernel) rfl)⟩, (uw_of 108 (by decide +kernel) rfl), rfl⟩
theorem cb_L_12 : CBI RL 12 yX10_init cX10_init 2 0 := ⟨⟨cw_X10_init, ini_ChartRoomModel, by decide, (uw_of 1067 (by decide +kernel) rfl)⟩, (uw_of 1068 (by decide +kernel) rfl), rfl⟩
set_option maxHeartbeats 4000000 in
set_option maxRecDepth 100000 in
theorem GK_start {s : State} {b : Addr} (hts0 : ∀ w ∈ lw_tbl, w.before #[Value.ref b] s = true) : ∃ (D : va_G) (cy : Nat → ClassId), GK D cy s := by
  have hts : ∀ w ∈ UW, w.before #[Value.ref b] s = true := fun w hw => hts0 w (List.mem_filter.mp hw).1
  obtain ⟨c0, i0, hk0⟩ := u_known (C := RJx4a65c) (T := TJx4a65c) (N := 3) (n := 3) hts iu_0 (hts _ (uw_of 120 (by decide +kernel) rfl))
  obtain ⟨c1, i1, hk1⟩ := u_known (C := RX0) (T := TX0) (N := 10) (n := 10) hts iu_1 (hts _ (uw_of 187 (by decide +kernel) rfl))
  obtain ⟨c2, i2, hk2⟩ := u_known (C := RX1) (T := TX1) (N := 9) (n := 9) hts iu_2 (hts _ (uw_of 114 (by decide +kernel) rfl))
  obtain ⟨c3, i3, hk3⟩ := u_known (C := RX2) (T := TX2) (N := 6) (n := 6) hts iu_3 (hts _ (uw_of 921 (by decide +kernel) rfl))
  obtain ⟨c4, i4, hk4⟩ := u_known (C := RX3) (T := TX3) (N := 5) (n := 5) hts iu_4 (hts _ (uw_of 797 (by decide +kernel) rfl))
  obtain ⟨c5, i5, hk5⟩ := u_known (C := RX4) (T := TX4) (N := 3) (n := 3) hts iu_5 (hts _ (uw_of 250 (by decide +kernel) rfl))
  obtain ⟨c6, i6, hk6⟩ := u_known (C := RX5) (T := TX5) (N := 3) (n := 3) hts iu_6 (hts _ (uw_of 234 (by decide +kernel) rfl))
  obtain ⟨c7, i7, hk7⟩ := u_known (C := RX6) (T := TX6) (N := 6) (n := 6) hts iu_7 (hts _ (uw_of 346 (by decide +kernel) rfl))
  obtain ⟨c8, i8, hk8⟩ := u_known (C := RX7) (T := TX7) (N := 3) (n := 3) hts iu_8 (hts _ (uw_of 271 (by decide +kernel) rfl))
  obtain ⟨c9, i9, hk9⟩ := u_known (C := RX8) (T := TX8) (N := 6) (n := 6) hts iu_9 (hts _ (uw_of 485 (by decide +kernel) rfl))
  obtain ⟨c10, i10, hk10⟩ := u_known (C := RX9) (T := TX9) (N := 13) (n := 13) hts iu_10 (hts _ (uw_of 106 (by decide +kernel) rfl))
  obtain ⟨c11, i11, hk11⟩ := u_known (C := RX10) (T := TX10) (N := 58) (n := 58) hts iu_11 (hts _ (uw_of 1066 (by decide +kernel) rfl))
  obtain ⟨cI, kI, pI, fI1, fI2, fI3⟩ := Cond.arrayClass_spec (hts (.arrayClass .int) (uw_of 185 (by decide +kernel) rfl))
  obtain ⟨cZ, kZ, pZ, fZ1, fZ2, fZ3⟩ := Cond.arrayClass_spec (hts (.arrayClass .boolean) (uw_of 230 (by decide +kernel) rfl))
  obtain ⟨pS, cS, kS, gS1, -, gS2, gS3, gS4⟩ := Cond.arrayOver_spec (hts (.arrayOver (.object "ChartRoom$Sheet")) (uw_of 270 (by decide +kernel) rfl))
  obtain ⟨pO, cO, kO, gO1, -, gO2, gO3, gO4⟩ := Cond.arrayOver_spec (hts (.arrayOver (.object "java/lang/Object")) (uw_of 424 (by decide +kernel) rfl))
  obtain ⟨pA, cA, kA, gA1, -, gA2, gA3, gA4⟩ := gx_AOs (gx_back (w := .arrayOver (.array .int)) rfl (hts _ (uw_of 256 (by decide +kernel) rfl)))
  refine ⟨(fun k => if k = 0 then c0 else if k = 1 then c1 else if k = 2 then c2 else if k = 3 then c3 else if k = 4 then c4 else if k = 5 then c5 else if k = 6 then c6 else if k = 7 then c7 else if k = 8 then c8 else if k = 9 then c9 else if k = 10 then c10 else c11, fun k => if k = 0 then i0 else if k = 1 then i1 else if k = 2 then i2 else if k = 3 then i3 else if k = 4 then i4 else if k = 5 then i5 else if k = 6 then i6 else if k = 7 then i7 else if k = 8 then i8 else if k = 9 then i9 else if k = 10 then i10 else i11), (fun k => if k = 12 then cI else if k = 13 then cZ else if k = 14 then cS else if k = 15 then cO else cA), ⟨fun k q hq => ?_, fun k q hq => ?_⟩, fun w hw => gx_back (gx_all w hw) (hts w hw)⟩
  · match k, hq with
    | 0, hq => cases hq; exact hk0
    | 1, hq => cases hq; exact hk1
    | 2, hq => cases hq; exact hk2
    | 3, hq => cases hq; exact hk3
    | 4, hq => cases hq; exact hk4
    | 5, hq => cases hq; exact hk5
    | 6, hq => cases hq; exact hk6
    | 7, hq => cases hq; exact hk7
    | 8, hq => cases hq; exact hk8
    | 9, hq => cases hq; exact hk9
    | 10, hq => cases hq; exact hk10
    | 11, hq => cases hq; exact hk11
    | k + 12, hq => simp [vwCl] at hq
  · match k, hq with
    | 0, hq => cases hq; exact ⟨fun n z => ⟨(fun k h => by cases h), kI, fI2, pI, fI3⟩, fI1⟩
    | 1, hq => cases hq; exact ⟨fun n z => ⟨(fun k h => by cases h), kZ, fZ2, pZ, fZ3⟩, fZ1⟩
    | 2, hq => cases hq; exact ⟨fun n z => ⟨(fun k h => by cases h), kS, gS2, pS, gS3⟩, kS, pS, gS2, gS3, gS1, gS4⟩
    | 3, hq => cases hq; exact ⟨fun n z => ⟨(fun k h => by cases h), kO, gO2, pO, gO3⟩, kO, pO, gO2, gO3, gO1, gO4⟩
    | 4, hq => cases hq; exact ⟨fun n z => ⟨(fun k h => by cases h), kA, gA2, pA, gA3⟩, gA4⟩
    | k + 5, hq => simp [m_tys] at hq
theorem EX_start {s : State} {b : Addr} (hts0 : ∀ w ∈ lw_tbl, w.before #[Value.ref b] s = true) (hgv : (Jvm.Cond.and given_1 narrow_1).before #[Value.ref b] s = true) : ∃ t0 : Nat, ∀ (ad : Nat → Nat), ad 0 = t0 → EX ad (fun q => s.heap.size ≤ q) s := by
  have hfl := flat_of_before _ hgv
  have h1 : (Cond.arrayOf (.static "java/util/ArrayList" "DEFAULTCAPACITY_EMPTY_ELEMENTDATA" "[Ljava/lang/Object;") (.object "java/lang/Object")).before #[Value.ref b] s = true := hfl _ (by decide +kernel)
  have h2 : (Cond.eq (.length (.static "java/util/ArrayList" "DEFAULTCAPACITY_EMPTY_ELEMENTDATA" "[Ljava/lang/Object;")) (.int 0)).before #[Value.ref b] s = true := hfl _ (by decide +kernel)
  have h3 : (Cond.isRef (.mirror "[Ljava/lang/Object;")).before #[Value.ref b] s = true := hfl _ (by decide +kernel)
  obtain ⟨t, ht, hT⟩ := va_Tof (N := 0) (f := fun _ => .null) (A := fun q => s.heap.size ≤ q) (by decide) h1 (va_eqt h2) (fun j hj => absurd hj (Nat.not_lt_zero j)) (fun a ha => Nat.not_le.mpr ha)
  refine ⟨t, fun ad had => ⟨?_, ?_, va_Mi.of h3⟩⟩
  · rw [had]
    exact va_Zof (hts0 _ (List.mem_of_getElem? (i := 132) (by decide +kernel))) (hts0 _ (List.mem_of_getElem? (i := 88) (by decide +kernel))) ht (fun a ha => Nat.not_le.mpr ha)
  · rw [had]
    exact hT
set_option maxHeartbeats 4000000 in
set_option maxRecDepth 100000 in
/-- the law from its entry, open in the pure steps -/
theorem whole_open {Inv : MS → MS → Prop} (hAll : LawAll Inv) (hI : ∀ SC SR, Inv SC SR → o_is SC 1 10 = some 1 ∧ o_is SR 1 11 = some 1)
    (hInit : ∃ SC SR, fX9_init (m_new m_0 10 0) 1 = some SC ∧ fX10_init (m_new m_0 11 0) 1 = some SR ∧ Inv SC SR ∧ m_n SC = 50 ∧ m_closed SC)
    {p : Program} {e : Env} {s : State} {m : MethodId} {below : List Frame} {meth : Method} {c : Code} (l : Launch) {b L : Nat} {xs : Nat → Int32} (hL : L ≤ 4608) (C1 : lw_At p s m meth c b L xs) : W p l e room_1 s m #[Value.ref b] below meth c s.heap [] 0 0 (lw_Z below #[Value.ref b] s) (entryFrame m ([Value.ref b] : List Value).toArray 4) := by
  obtain ⟨hx, hb, hrt, hml, hown, hts0, hX, hbl, hlocks, hgv⟩ := C1
  obtain ⟨SC, SR, iC, iR, hInv, hnC, hcl⟩ := hInit
  obtain ⟨D, cy, hG⟩ := GK_start hts0
  obtain ⟨t0, hEx⟩ := EX_start hts0 hgv
  have C0 : CX p s m #[Value.ref b] meth c R_law cL_law 4 D cy := ⟨hx, hb, hml, hown, hG, fun w hw => hts0 w (List.mem_filter.mp hw).1, hlocks⟩
  have hbA : ¬ s.heap.size ≤ b := Nat.not_le.mpr hbl
  have hl := lv_entry ([.ref b]) (n := 4) (Nat.le_of_ble_eq_true rfl)
  rw [lg_entry_eq]
  generalize (lg_sl ([.ref b]) ++ List.replicate (4 - (lg_sl ([.ref b])).length) Slot.unset).toArray = ls at hl ⊢
  have hl : lv_has ls 4 [(0, .ref b)] := hl
  obtain ⟨ad0, had0⟩ : ∃ ad0 : Nat → Nat, ad0 = fun k => if k = 0 then t0 else s.heap.size + (k - 1) := ⟨_, rfl⟩
  have a0 : ad0 0 = t0 := by rw [had0]; rfl
  have ak : ∀ k, 0 < k → ad0 k = s.heap.size + (k - 1) := fun k hk => by rw [had0]; exact if_neg (by omega)
  have hA0 : ∀ k, 0 < k → (fun q => s.heap.size ≤ q) (ad0 k) := fun k hk => by rw [ak k hk]; exact Nat.le_add_right _ _
  have hs0 : ∀ k, 0 ≤ k → ad0 (k + 1) + 1 = ad0 (k + 2) := fun k _ => by rw [ak _ (by omega), ak _ (by omega)]; omega
  have hE0 : EX ad0 (fun q => s.heap.size ≤ q) s := hEx ad0 a0
  have M : ST D cy ad0 (fun q => s.heap.size ≤ q) s.heap (ZA ad0 0) m_0 s.heap [] := ⟨⟨fun k q h => by simp [m_ws, m_0, m_n] at h, ⟨fun i j p q h => by simp [m_ws, m_0, m_n] at h, fun k q h => by simp [m_ws, m_0, m_n] at h⟩⟩, va_S.rf, by show s.heap.size = ad0 1; rw [ak 1 (by omega)]; rfl, Nat.zero_le _⟩
  refine k_new C0 M hA0 hs0 nw_law_7 (Nat.le_of_ble_eq_true rfl) (Nat.le_of_ble_eq_true rfl) dL_law_0 (fun H M => ?_)
  refine lv_dup hx hb dL_law_3 rfl ?_
  refine go_AV (r_I (rest := [.ref (ad0 1)]) (As := []) C0 cb_L_9 (tX9_init l D cy ad0 (fun q => s.heap.size ≤ q) 0 hA0 hs0 iC) (pre_A C0 hE0 M) hl dL_law_4 rfl (Nat.le_of_ble_eq_true rfl) ⟨rfl, rfl⟩ ⟨Nat.le_of_ble_eq_true rfl, Nat.le_of_ble_eq_true rfl⟩ ⟨Nat.le_of_ble_eq_true rfl, Nat.le_of_ble_eq_true rfl⟩ rfl) M (fun H1 locs1 MC => ?_)
  refine va_forget (fun q hq => MC.2.1.2.2 q hq) ?_
  refine lv_astore_n (lv' := [(1, .ref (ad0 1)), (0, .ref b)]) hx hb dL_law_7 rfl hl (by decide) rfl (fun ls hl => ?_)
  have z1 : H1.size = s.heap.size + 50 := by
    have h := MC.2.2.1
    rw [hnC, ak _ (by omega)] at h
    exact h
  obtain ⟨adR, hadR⟩ : ∃ adR : Nat → Nat, adR = fun k => if k = 0 then t0 else H1.size + (k - 1) := ⟨_, rfl⟩
  have r0 : adR 0 = t0 := by rw [hadR]; rfl
  have rk : ∀ k, 0 < k → adR k = H1.size + (k - 1) := fun k hk => by rw [hadR]; exact if_neg (by omega)
  have hAR : ∀ k, 0 < k → (fun q => H1.size ≤ q) (adR k) := fun k hk => by rw [rk k hk]; exact Nat.le_add_right _ _
  have hsR : ∀ k, 0 ≤ k → adR (k + 1) + 1 = adR (k + 2) := fun k _ => by rw [rk _ (by omega), rk _ (by omega)]; omega
  have hER : EX adR (fun q => s.heap.size ≤ q) s := hEx adR r0
  have MR : ST D cy adR (fun q => H1.size ≤ q) H1 (ZA adR 0) m_0 H1 [] := ⟨⟨fun k q h => by simp [m_ws, m_0, m_n] at h, ⟨fun i j p q h => by simp [m_ws, m_0, m_n] at h, fun k q h => by simp [m_ws, m_0, m_n] at h⟩⟩, va_S.rf, by show H1.size = adR 1; rw [rk 1 (by omega)]; rfl, Nat.zero_le _⟩
  refine k_new C0 MR hAR hsR nw_law_10 (Nat.le_of_ble_eq_true rfl) (Nat.le_of_ble_eq_true rfl) dL_law_8 (fun H2 MR => ?_)
  refine lv_dup hx hb dL_law_11 rfl ?_
  have hV2 : va_S (fun q => s.heap.size ≤ q) s.heap H2 [] := ⟨Nat.le_trans MC.2.1.1 MR.2.1.1, fun q h1 h2 => (MR.2.1.2.1 q (Nat.lt_of_lt_of_le h1 MC.2.1.1) (by show ¬ H1.size ≤ q; omega)).trans (MC.2.1.2.1 q h1 h2), fun q hq => by cases hq⟩
  have hpre : PreF s H2 (PcA D cy adR (fun q => H1.size ≤ q) 0 (m_new m_0 11 0) [.ref (adR 1)]) [.ref (adR 1)] := ⟨PcA.blind, fun U hU hW => ⟨rfl, hG.moved hW, by
    obtain ⟨q1, q2, q3⟩ := hER.moved hV2 hU hW.alike
    exact ⟨q1.narrow (fun q hq => by show s.heap.size ≤ q; have hq' : H1.size ≤ q := hq; omega), q2.narrow (fun q hq => by show s.heap.size ≤ q; have hq' : H1.size ≤ q := hq; omega), q3⟩, by rw [hU]; exact MR.1, by rw [hU]; exact MR.2.2⟩⟩
  refine go_AV (r_I (rest := [.ref (adR 1)]) (As := []) C0 cb_L_12 (tX10_init l D cy adR (fun q => H1.size ≤ q) 0 hAR hsR iR) hpre hl dL_law_12 rfl (Nat.le_of_ble_eq_true rfl) ⟨rfl, rfl⟩ ⟨Nat.le_of_ble_eq_true rfl, Nat.le_of_ble_eq_true rfl⟩ ⟨Nat.le_of_ble_eq_true rfl, Nat.le_of_ble_eq_true rfl⟩ rfl) MR (fun H3 locs3 MR => ?_)
  have h13 : H1.size ≤ H3.size := MR.2.1.1
  refine va_forget (fun q hq => by have := MR.2.1.2.2 q hq; have h' : H1.size ≤ q.base := this; omega) ?_
  refine lv_astore_n (lv' := [(2, .ref (adR 1)), (1, .ref (ad0 1)), (0, .ref b)]) hx hb dL_law_15 rfl hl (by decide) rfl (fun ls hl => ?_)
  refine lv_iconst (v := (0 : Int32)) hx hb dL_law_16 (by decide) ?_
  refine lv_istore_n (lv' := [(3, .int (0 : Int32)), (2, .ref (adR 1)), (1, .ref (ad0 1)), (0, .ref b)]) hx hb dL_law_17 rfl hl (by decide) rfl (fun ls hl => ?_)
  obtain ⟨adC, hadC⟩ : ∃ adC : Nat → Nat, adC = fun k => if k ≤ 50 then ad0 k else H3.size + (k - 51) := ⟨_, rfl⟩
  have c0 : ∀ k, k ≤ 50 → adC k = ad0 k := fun k hk => by rw [hadC]; exact if_pos hk
  have c1 : ∀ k, 50 < k → adC k = H3.size + (k - 51) := fun k hk => by rw [hadC]; exact if_neg (by omega)
  have hk1 : ∀ q : Nat, q < H1.size → H3[q]? = H1[q]? := fun q hq => MR.2.1.2.1 q hq (by show ¬ H1.size ≤ q; omega)
  have hV3 : va_S (fun q => s.heap.size ≤ q) s.heap H3 [] := ⟨by omega, fun q h1 h2 => (hk1 q (by omega)).trans (MC.2.1.2.1 q h1 h2), fun q hq => by cases hq⟩
  have MC3 : MW D cy adC (fun q => ∃ k, 0 < k ∧ q = adC k) SC H3 := by
    obtain ⟨⟨hP, hD⟩, -⟩ := MC
    have e : m_ws cy ad0 SC = m_ws cy adC SC := m_ws_ad hcl (fun k hk => (c0 k (by omega)).symm)
    rw [e] at hP hD
    refine ⟨hP.kept fun k q hq => hk1 _ ((hP k q hq).lt), hD.1, fun k q hq => ?_⟩
    unfold m_ws at hq
    rw [List.getElem?_map] at hq
    obtain ⟨k2, -, hq2⟩ := Option.map_eq_some_iff.mp hq
    exact ⟨k2 + 1, by omega, by rw [← hq2]⟩
  have MR3 : MW D cy adR (fun q => H1.size ≤ q ∧ q < H3.size) SR H3 := ⟨MR.1.1, MR.1.2.1, fun k q hq => ⟨MR.1.2.2 k q hq, (MR.1.1 k q hq).lt⟩⟩
  have hLA : LA s.heap (fun q => ∃ k, 0 < k ∧ q = adC k) (fun q => H1.size ≤ q ∧ q < H3.size) := by
    refine ⟨?_, ?_, fun q hq => by have := hq.1; omega⟩
    · rintro q ⟨k, hk, rfl⟩ ⟨h1, h2⟩
      by_cases h : k ≤ 50
      · rw [c0 k h, ak k hk] at h1
        omega
      · rw [c1 k (by omega)] at h2
        omega
    · rintro q ⟨k, hk, rfl⟩
      by_cases h : k ≤ 50
      · rw [c0 k h, ak k hk]
        omega
      · rw [c1 k (by omega)]
        omega
  have hA : ∀ k, 0 < k → (fun q => ∃ k, 0 < k ∧ q = adC k) (adC k) := fun k hk => ⟨k, hk, rfl⟩
  have hs : ∀ k, 50 ≤ k → adC (k + 1) + 1 = adC (k + 2) := fun k hk => by rw [c1 _ (by omega), c1 _ (by omega)]; omega
  have hLW : LW D cy adC (fun q => ∃ k, 0 < k ∧ q = adC k) adR (fun q => H1.size ≤ q ∧ q < H3.size) s.heap 50 SC SR H3 [] := ⟨MC3, MR3, hV3, by rw [hnC, c1 _ (by omega)]; omega, by rw [hnC]; exact Nat.le_refl _⟩
  have e1 : ad0 1 = adC 1 := (c0 1 (by omega)).symm
  rw [e1] at hl
  have h := law_turn (l := l) (e := e) (below := below) C0 hX hbl hbA (hEx adC (by rw [c0 0 (by omega)]; exact a0)) hLA hA hs hI hAll hL 513 0 (by omega) hInv hLW (lv_sub hl [3, 2, 1, 0] rfl) (by omega) hrt
  exact W.widen (Nat.le_of_ble_eq_true rfl) (Nat.le_of_ble_eq_true rfl) h
