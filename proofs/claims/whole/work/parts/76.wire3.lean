/-! wire, whole; what keeps the core -/
theorem Lai.fr {I I' : Nat → Nat → Int32} {np nw : Nat} {P QR : List Nat} (h : Lai I np nw) (hr : FrR I I' P QR) (hP : ∀ r ∈ P, 17 < r) (hQ : ∀ k ∈ QR, k ≠ 1 ∧ k ≠ 8 ∧ k ≠ 15 ∧ k ≠ 16 ∧ k ≠ 17 ∧ k ≠ 18 ∧ k ≠ 19 ∧ k ≠ 23) : Lai I' np nw := by
  have hraw := raw_fr hr (fun r x => by have := hP r x; omega) (fun k x => by have := hQ k x; omega)
  have hin : inV I' nw = inV I nw := raw_c (fun I => inV I nw) (fun I => inV_raw I nw) hraw
  have hlv : lvn I' np nw = lvn I np nw := raw_c (fun I => lvn I np nw) (fun I => lvn_raw I np nw) hraw
  have hdd : dd I' np nw = dd I np nw := raw_c (fun I => dd I np nw) (fun I => dd_raw I np nw) hraw
  have hva : val I' np nw = val I np nw := raw_c (fun I => val I np nw) (fun I => val_raw I np nw) hraw
  have no : ∀ r, 1 < r → r ≤ 17 → I' r = I r := fun r h1 h2 => hr.1 r (by omega) (fun q => by have := hP r q; omega)
  have nq : ∀ k, k = 1 ∨ k = 8 ∨ k = 15 ∨ k = 16 ∨ k = 17 ∨ k = 18 ∨ k = 19 ∨ k = 23 → I' 1 k = I 1 k := fun k h1 => hr.2 k (fun q => by have := hQ k q; omega)
  obtain ⟨a1, a2, a3, a4, a5⟩ := h
  refine ⟨?_, a2.fr hraw (nq 15 (by omega)) (no 14 (by omega) (by omega)) (no 15 (by omega) (by omega)), fun p hp => ?_, ?_, fun k hk => ?_⟩
  · rw [hin, nq 19 (by omega)]; exact a1
  · rw [hlv, no 16 (by omega) (by omega)]; exact a3 p hp
  · rw [hdd, nq 23 (by omega)]; exact a4
  · rw [hva, no 17 (by omega) (by omega)]; exact a5 k hk
section CF
variable {S S' : MS} {I I' : Nat → Nat → Int32} {J : Nat → Nat → Int64} {np nw ep ew : Nat} {ps ws : Nat → Nat} {PI Q PL P QR : List Nat}
theorem Cor.fr (h : Cor S I np nw ep ew ps ws) (hC' : CS S') (hf : FrC S S' PI Q PL) (hx : Fx S S' PI PL) (hPI : ∀ a ∈ PI, 11 < a) (hQ : 2 ∉ Q) (h3 : 3 ∉ PL) (h4 : 4 ∉ PL) (hep : ep = 0 ∨ ep ∉ PL) (hew : ew = 0 ∨ ew ∉ PL) (hr : FrR I I' P QR) (hP : ∀ r ∈ P, 17 < r) (hQR : ∀ k ∈ QR, k ≠ 1 ∧ k ≠ 8 ∧ k ≠ 15 ∧ k ≠ 16 ∧ k ≠ 17 ∧ k ≠ 18 ∧ k ≠ 19 ∧ k ≠ 23) : Cor S' I' np nw ep ew ps ws := by
  have hraw := raw_fr hr (fun r x => by have := hP r x; omega) (fun k x => by have := hQR k x; omega)
  have no : ∀ r, 1 < r → r ≤ 17 → I' r = I r := fun r h1 h2 => hr.1 r (by omega) (fun q => by have := hP r q; omega)
  have nq : ∀ k, k = 1 ∨ k = 8 ∨ k = 15 ∨ k = 16 ∨ k = 17 ∨ k = 18 ∨ k = 19 ∨ k = 23 → I' 1 k = I 1 k := fun k h1 => hr.2 k (fun q => by have := hQR k q; omega)
  have nPI : ∀ a, a ≤ 11 → a ∉ PI := fun a ha q => by have := hPI a q; omega
  obtain ⟨⟨hC, hPo, hW, hD⟩, ⟨hc, h80⟩, hl⟩ := h
  have row : ∀ a, 1 < a → a ≤ 11 → m_I S' a = m_I S a := fun a h1 h2 => hf.row hC h1 (by omega) (nPI a h2)
  refine ⟨⟨hC', hPo.fr hf hx (nPI 3 (by omega)) h3 hep (nq 1 (by omega)) (fun r h1 h2 => no r (by omega) (by omega)), hW.fr hf hx (nPI 4 (by omega)) h4 hew (nq 8 (by omega)) (fun p _ => by rw [no 5 (by omega) (by omega)]) (Nat.le_refl _) (fun r h1 h2 => no r (by omega) (by omega)), (hD.fr hC hf ⟨nPI 2 (by omega), nPI 5 (by omega), nPI 6 (by omega), nPI 7 (by omega)⟩).raw hraw⟩, ⟨?_, ?_⟩, ?_⟩
  · rw [hf.2.2 2 hQ]
    refine hc.imp_right (fun x => ⟨x.1, Stt.raw (S := S') (I := I) ?_ hraw⟩)
    unfold Stt
    rw [row 9 (by omega) (by omega), row 10 (by omega) (by omega), row 8 (by omega) (by omega), row 11 (by omega) (by omega)]
    exact x.2
  · rw [row 8 (by omega) (by omega), nq 17 (by omega)]
    exact h80
  · unfold i_la
    rw [nq 18 (by omega)]
    exact hl.imp_right (fun x => ⟨x.1, x.2.fr hr hP hQR⟩)
theorem Cor.F (h : Cor S I np nw ep ew ps ws) (v : Int32) : Cor (cF S v) (rF I v) np nw ep ew ps ws :=
  h.fr (cF_C h.1.1) cF_f ⟨by simp, by simp⟩ (by simp) (by simp) (by simp) (by simp) (.inr (by simp)) (.inr (by simp)) rF_f (by simp) (by simp)
theorem fbad {P : Nat → Prop} (n : Nat) : (∀ j, j < n → P j) ∨ ∃ j, j < n ∧ ¬ P j ∧ ∀ i, i < j → P i := by
  induction n with
  | zero => exact .inl (fun j hj => by omega)
  | succ n ih =>
    rcases ih with ih | ⟨j, h1, h2, h3⟩
    · by_cases h : P n
      · refine .inl (fun j hj => ?_)
        by_cases hjn : j = n
        · rw [hjn]; exact h
        · exact ih j (by omega)
      · exact .inr ⟨n, by omega, h, ih⟩
    · exact .inr ⟨j, by omega, h2, h3⟩
theorem n15 (a b : Nat) : (15 : Int32) * nI a + nI b = nI (15 * a + b) := by rw [show (15 : Int32) = nI 15 from rfl, nI_mul, nI_add]
theorem m1i : (-1 : Int32).toInt = -1 := rfl
theorem n9i : (9 : Int32).toInt = 9 := rfl
theorem n99 : (99 : Int32).toInt = 99 := rfl
/-- all fifteen cells are digits, or the first that isn't -/
theorem R_wire1 {k i : Nat} {p x2 x3 : Int32} (hk : k < 4) (hi : i + 15 ≤ 60) : lim sX10_wire (.inl (1, p, x2, x3, nI k, nI i, nI 0, mkR I J)) = lim sX10_wire (.inl (1, p, x2, x3, nI k, nI i, nI 15, mkR I J)) ∧ (∀ j, j < 15 → dgR (I 42 (60 * k + i + j))) ∨ lim sX10_wire (.inl (1, p, x2, x3, nI k, nI i, nI 0, mkR I J)) = some (-2, mkR (rF I 0) J) ∧ ¬ ∀ j, j < 15 → dgR (I 42 (60 * k + i + j)) := by
  have step : ∀ j, j < 15 → dgR (I 42 (60 * k + i + j)) → sX10_wire (.inl (1, p, x2, x3, nI k, nI i, nI j, mkR I J)) = some (.inl (.inl (1, p, x2, x3, nI k, nI i, nI (j + 1), mkR I J))) := fun j hj hd => by
    show bX10_wire_137 (mkR I J) 1 p x2 x3 (nI k) (nI i) (nI j) = _
    unfold bX10_wire_137
    rw [if_neg (show ¬ (15 : Int32) ≤ nI j from nI_ge (b := 15) hj (by omega)), rP55, Option.bind_some, n60b, rL42 rfl (by omega), Option.bind_some, R_in_t (a' := -1) (b' := 9) rfl rfl hd, Option.bind_some, if_neg (by decide), Option.bind_some, nI_1]
  rcases fbad (P := fun j => dgR (I 42 (60 * k + i + j))) 15 with h | ⟨j, hj, h2, h3⟩
  · refine .inl ⟨?_, h⟩
    exact lim_it (step := sX10_wire) (st := fun j => .inl (1, p, x2, x3, nI k, nI i, nI j, mkR I J)) 15 (fun j hj => step j hj (h j hj))
  · refine .inr ⟨?_, fun q => h2 (q j hj)⟩
    refine lim_it2 (step := sX10_wire) (st := fun j => .inl (1, p, x2, x3, nI k, nI i, nI j, mkR I J)) j (fun m hm => step m (by omega) (h3 m hm)) ?_
    show bX10_wire_137 (mkR I J) 1 p x2 x3 (nI k) (nI i) (nI j) = _
    unfold bX10_wire_137
    rw [if_neg (show ¬ (15 : Int32) ≤ nI j from nI_ge (b := 15) hj (by omega)), rP55, Option.bind_some, n60b, rL42 rfl (by omega), Option.bind_some, R_in_f (a' := -1) (b' := 9) rfl rfl h2, Option.bind_some, if_pos rfl, rIs, Option.bind_some, R_refused, b2_s]
theorem C_wire1 {k i : Nat} {p x2 x3 : Int32} (hC : CS S) (hk : k < 4) (hi : i + 15 ≤ 60) {D : Nat → Int32} (hD : ∀ j, j < 15 → m_I S (44 + 2 * k) (i + j) = D j) : lim sX9_wire (1, p, x2, x3, nI i, 44 + 2 * k, nI (i + 0), S) = lim sX9_wire (1, p, x2, x3, nI i, 44 + 2 * k, nI (i + 15), S) ∧ (∀ j, j < 15 → dgR (D j)) ∨ lim sX9_wire (1, p, x2, x3, nI i, 44 + 2 * k, nI (i + 0), S) = some (-2, S) ∧ ¬ ∀ j, j < 15 → dgR (D j) := by
  have e15 : nI i + 15 = nI (i + 15) := nI_add i 15
  have step : ∀ j, j < 15 → dgR (D j) → sX9_wire (1, p, x2, x3, nI i, 44 + 2 * k, nI (i + j), S) = some (.inl (1, p, x2, x3, nI i, 44 + 2 * k, nI (i + (j + 1)), S)) := fun j hj hd => by
    show bX9_wire_102 S 1 p x2 x3 (nI i) (44 + 2 * k) (nI (i + j)) = _
    unfold bX9_wire_102
    rw [e15, if_neg (nI_ge (by omega) (by omega)), at_ld (cAt44 hC k hk) (cLn44 hC k hk) (by decide) rfl (by omega), Option.bind_some, hD j hj, C_isWithin, m1i, n9i, bz_t (show -1 ≤ (D j).toInt ∧ (D j).toInt ≤ 9 from hd), Option.bind_some, if_neg (by decide), Option.bind_some, nI_1, Nat.add_assoc]
  rcases fbad (P := fun j => dgR (D j)) 15 with h | ⟨j, hj, h2, h3⟩
  · refine .inl ⟨?_, h⟩
    exact lim_it (st := fun j => (1, p, x2, x3, nI i, 44 + 2 * k, nI (i + j), S)) 15 (fun j hj => step j hj (h j hj))
  · refine .inr ⟨?_, fun q => h2 (q j hj)⟩
    refine lim_it2 (step := sX9_wire) (st := fun j => (1, p, x2, x3, nI i, 44 + 2 * k, nI (i + j), S)) j (fun m hm => step m (by omega) (h3 m hm)) ?_
    show bX9_wire_102 S 1 p x2 x3 (nI i) (44 + 2 * k) (nI (i + j)) = _
    unfold bX9_wire_102
    rw [e15, if_neg (nI_ge (by omega) (by omega)), at_ld (cAt44 hC k hk) (cLn44 hC k hk) (by decide) rfl (by omega), Option.bind_some, hD j hj, C_isWithin, m1i, n9i, bz_f (show ¬ (-1 ≤ (D j).toInt ∧ (D j).toInt ≤ 9) from h2), Option.bind_some, if_pos rfl]
/-- the readings of new digits -/
theorem R_newRead {D : Nat → Int32} (hn : nw < 30) (hd : ∀ j, j < 15 → dgR (D j)) (hK : I 11 = fil (I' 11) (15 * nw) 15 D) : fX10_readingAt (mkR I J) 1 (nI nw) 1 (-1) = some (nI (RD (fun x => D (5 + x)) 1).length) ∧ fX10_readingAt (mkR I J) 1 (nI nw) 1 0 = some (rfz (RD (fun x => D (5 + x)) 1)[0]?) := by
  have hDig : ∀ x, x < 5 → Dig I nw 1 x = D (5 + x) := fun x hx => by
    unfold Dig
    rw [hK, Nat.add_assoc, fil_i (by omega)]
  have hdg : ∀ x, x < 5 → dgR (Dig I nw 1 x) := fun x hx => by
    rw [hDig x hx]
    exact hd _ (by omega)
  have hRD : RD (Dig I nw 1) 1 = RD (fun x => D (5 + x)) 1 := RD_c hDig 1
  have a1 := R_count (J := J) (g := 1) hn (by omega) hdg
  have a2 := R_at (J := J) (g := 1) (i := 0) hn (by omega) (by omega) hdg
  rw [hRD] at a1 a2
  refine ⟨a1, ?_⟩
  generalize (RD (fun x => D (5 + x)) 1)[0]? = o at a2
  refine a2.trans ?_
  cases o <;> rfl
/-- the rows of a new wire, all but the digits -/
theorem R_wire205 {k i p n : Nat} {x2 x3 z : Int32} {K : Nat → Nat → Int32} (hn : nw < 30) (h8 : K 1 8 = nI nw) (c1 : ∀ K' : Nat → Nat → Int32, K' 11 = K 11 → fX10_readingAt (mkR K' J) 1 (nI nw) 1 (-1) = some (nI n)) (c2 : ∀ K' : Nat → Nat → Int32, K' 11 = K 11 → fX10_readingAt (mkR K' J) 1 (nI nw) 1 0 = some z) : bX10_wire_205 (mkR K J) 1 (nI p) x2 x3 (nI k) (nI i) (nI 15) = some (.inr (nI nw, mkR (va_up (va_up (va_up (va_up (va_up (va_up K 8 (upd (K 8) nw (nI p))) 9 (upd (K 9) nw x2)) 10 (upd (K 10) nw x3)) 12 (upd (K 12) nw (nI n))) 13 (upd (K 13) nw z)) 1 (upd (upd (upd (K 1) 8 (nI (nw + 1))) 18 0) 0 0)) J)) := by
  have hs : ∀ (K : Nat → Nat → Int32) (k : Nat) (v : Int32), o_sI (mkR K J) 1 11 k v = some (mkR (va_up K 1 (upd (K 1) k v)) J) := fun K k v => rSI k v
  have u : ∀ {a b : Nat} (f : Nat → Nat → Int32) (v : Nat → Int32), a ≠ b → va_up f b v a = f a := fun f v h => up_n h
  unfold bX10_wire_205
  rw [if_pos (by decide)]
  rw [rP9, Option.bind_some, rI, Option.bind_some, h8, rS8 rfl hn, Option.bind_some]
  have g8 : va_up K 8 (upd (K 8) nw (nI p)) 1 8 = nI nw := by rw [u _ _ (by decide)]; exact h8
  rw [rP10, Option.bind_some, rI, Option.bind_some, g8, rS9 rfl hn, Option.bind_some, u _ _ (show (9 : Nat) ≠ 8 by decide)]
  generalize hK1 : va_up (va_up K 8 (upd (K 8) nw (nI p))) 9 (upd (K 9) nw x2) = K1
  have g9 : K1 1 = K 1 := by rw [← hK1, u _ _ (by decide), u _ _ (by decide)]
  have k10 : K1 10 = K 10 := by rw [← hK1, u _ _ (by decide), u _ _ (by decide)]
  have k11 : K1 11 = K 11 := by rw [← hK1, u _ _ (by decide), u _ _ (by decide)]
  have k12 : K1 12 = K 12 := by rw [← hK1, u _ _ (by decide), u _ _ (by decide)]
  have k13 : K1 13 = K 13 := by rw [← hK1, u _ _ (by decide), u _ _ (by decide)]
  rw [rP11, Option.bind_some, rI, Option.bind_some, g9, h8, rS10 rfl hn, Option.bind_some, k10]
  generalize hK2 : va_up K1 10 (upd (K 10) nw x3) = K2
  have g10 : K2 1 = K 1 := by rw [← hK2, u _ _ (by decide)]; exact g9
  have j11 : K2 11 = K 11 := by rw [← hK2, u _ _ (by decide)]; exact k11
  have j12 : K2 12 = K 12 := by rw [← hK2, u _ _ (by decide)]; exact k12
  have j13 : K2 13 = K 13 := by rw [← hK2, u _ _ (by decide)]; exact k13
  rw [rP13, Option.bind_some, rI, Option.bind_some, Option.bind_some, g10, h8, rIs, Option.bind_some, c1 K2 j11, Option.bind_some, rS12 rfl hn, Option.bind_some, j12]
  generalize hK3 : va_up K2 12 (upd (K 12) nw (nI n)) = K3
  have g12 : K3 1 = K 1 := by rw [← hK3, u _ _ (by decide)]; exact g10
  have i11 : K3 11 = K 11 := by rw [← hK3, u _ _ (by decide)]; exact j11
  have i13 : K3 13 = K 13 := by rw [← hK3, u _ _ (by decide)]; exact j13
  rw [rP14, Option.bind_some, rI, Option.bind_some, Option.bind_some, g12, h8, rIs, Option.bind_some, c2 K3 i11, Option.bind_some, rS13 rfl hn, Option.bind_some, i13]
  generalize hK4 : va_up K3 13 (upd (K 13) nw z) = K4
  have g13 : K4 1 = K 1 := by rw [← hK4, u _ _ (by decide)]; exact g12
  rw [rI, Option.bind_some, g13, h8, nI_1, hs, Option.bind_some, hs, Option.bind_some, rI, Option.bind_some, rIs, Option.bind_some, R_refused, b2_s, g13, up_s, up_up, up_s, upd_n (show (8 : Nat) ≠ 18 by decide), upd_s, nI_pred]
  unfold rF
  rw [up_s, up_up]
theorem addW_eq {x1 x2 x3 : Int32} {D : Nat → Int32} : addW I nw x1 x2 x3 D = va_up (va_up (va_up (va_up (va_up (va_up (va_up I 11 (fil (I 11) (15 * nw) 15 D)) 8 (upd (I 8) nw x1)) 9 (upd (I 9) nw x2)) 10 (upd (I 10) nw x3)) 12 (upd (I 12) nw (nI (RD (fun x => D (5 + x)) 1).length))) 13 (upd (I 13) nw (rfz (RD (fun x => D (5 + x)) 1)[0]?))) 1 (upd (upd (upd (I 1) 8 (nI (nw + 1))) 18 0) 0 0) := by
  unfold addW
  generalize RD (fun x => D (5 + x)) 1 = L
  generalize fil (I 11) (15 * nw) 15 D = f11
  generalize upd (I 8) nw x1 = f8
  generalize upd (I 9) nw x2 = f9
  generalize upd (I 10) nw x3 = f10
  generalize upd (I 12) nw (nI L.length) = f12
  generalize upd (I 13) nw (rfz L[0]?) = f13
  generalize upd (upd (upd (I 1) 8 (nI (nw + 1))) 18 0) 0 0 = f1
  funext r
  unfold va_up
  by_cases r1 : r = 1
  · simp only [r1, if_true]
  by_cases r8 : r = 8
  · subst r8; simp
  by_cases r9 : r = 9
  · subst r9; simp
  by_cases r10 : r = 10
  · subst r10; simp
  by_cases r11 : r = 11
  · subst r11; simp
  by_cases r12 : r = 12
  · subst r12; simp
  by_cases r13 : r = 13
  · subst r13; simp
  simp only [r1, r8, r9, r10, r11, r12, r13, if_false]
theorem R_wire2 {k i p : Nat} {x2 x3 : Int32} (hk : k < 4) (hi : i + 15 ≤ 60) (hn : nw < 30) (h8 : I 1 8 = nI nw) (hd : ∀ j, j < 15 → dgR (I 42 (60 * k + i + j))) : lim sX10_wire (.inl (1, nI p, x2, x3, nI k, nI i, nI 15, mkR I J)) = some (nI nw, mkR (addW I nw (nI p) x2 x3 (fun j => I 42 (60 * k + i + j))) J) := by
  have e30 : (nI nw = 30) = False := eq_false (fun q => by have := (nI_eq (b := 30) (by omega) (by omega)).mp q; omega)
  generalize hDD : (fun j => I 42 (60 * k + i + j)) = D
  have hD : ∀ j, I 42 (60 * k + i + j) = D j := fun j => by rw [← hDD]
  have hd : ∀ j, j < 15 → dgR (D j) := fun j hj => by rw [← hD j]; exact hd j hj
  rw [lim_eq]
  show fin sX10_wire (bX10_wire_137 (mkR I J) 1 (nI p) x2 x3 (nI k) (nI i) (nI 15)) = _
  unfold bX10_wire_137
  rw [if_pos (by decide), rI, Option.bind_some, h8, if_neg (by rw [e30]; exact id), fin_l]
  have step : ∀ j, j < 15 → sX10_wire (.inr (1, nI p, x2, x3, nI k, nI i, nI j, mkR (va_up I 11 (fil (I 11) (15 * nw) j D)) J)) = some (.inl (.inr (1, nI p, x2, x3, nI k, nI i, nI (j + 1), mkR (va_up I 11 (fil (I 11) (15 * nw) (j + 1) D)) J))) := fun j hj => by
    show bX10_wire_205 (mkR (va_up I 11 (fil (I 11) (15 * nw) j D)) J) 1 (nI p) x2 x3 (nI k) (nI i) (nI j) = _
    unfold bX10_wire_205
    rw [if_neg (show ¬ (15 : Int32) ≤ nI j from nI_ge (b := 15) hj (by omega)), rP12, Option.bind_some, rI, up_n (by decide), h8, Option.bind_some, rP55, Option.bind_some, n60b, rL42 rfl (by omega), Option.bind_some, n15, rS11 rfl (by omega), Option.bind_some, Option.bind_some, nI_1, up_s, up_up, up_n (by decide), hD, fil_s]
  have hz : mkR I J = mkR (va_up I 11 (fil (I 11) (15 * nw) 0 D)) J := by rw [fil_0, up_id]
  have l1 : lim sX10_wire (.inr (1, nI p, x2, x3, nI k, nI i, nI 0, mkR I J)) = lim sX10_wire (.inr (1, nI p, x2, x3, nI k, nI i, nI 15, mkR (va_up I 11 (fil (I 11) (15 * nw) 15 D)) J)) := by
    have := lim_it (step := sX10_wire) (st := fun j => .inr (1, nI p, x2, x3, nI k, nI i, nI j, mkR (va_up I 11 (fil (I 11) (15 * nw) j D)) J)) 15 step
    rw [← hz] at this
    exact this
  have l2 := R_wire205 (J := J) (k := k) (i := i) (p := p) (x2 := x2) (x3 := x3) (n := (RD (fun x => D (5 + x)) 1).length) (z := rfz (RD (fun x => D (5 + x)) 1)[0]?) (K := va_up I 11 (fil (I 11) (15 * nw) 15 D)) hn (by rw [up_n (by decide)]; exact h8) (fun K' hK => (R_newRead (I' := I) hn hd (hK.trans up_s)).1) (fun K' hK => (R_newRead (I' := I) hn hd (hK.trans up_s)).2)
  rw [show lim sX10_wire (.inr (1, nI p, x2, x3, nI k, nI i, 0, mkR I J)) = _ from l1, addW_eq, lim_eq]
  show fin sX10_wire (bX10_wire_205 (mkR (va_up I 11 (fil (I 11) (15 * nw) 15 D)) J) 1 (nI p) x2 x3 (nI k) (nI i) (nI 15)) = _
  rw [l2, fin_r, up_n (show (8 : Nat) ≠ 11 by decide), up_n (show (9 : Nat) ≠ 11 by decide), up_n (show (10 : Nat) ≠ 11 by decide), up_n (show (12 : Nat) ≠ 11 by decide), up_n (show (13 : Nat) ≠ 11 by decide), up_n (show (1 : Nat) ≠ 11 by decide)]
end CF
