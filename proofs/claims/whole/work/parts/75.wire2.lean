/-! a new wire, both sides -/
section WN
variable {S S' : MS} {I I' : Nat → Nat → Int32} {J : Nat → Nat → Int64} {np nw ep ew : Nat} {ps ws : Nat → Nat}
theorem C_wireInit {o q : Nat} {x1 x2 x3 x4 : Int32} (h1 : 1 < o) (ho : m_at S o 9) (hq : m_at S q 12) (hL : m_L S q = 15) (hd : ∀ x, x < 15 → dgR (m_I S q x)) : ∃ S' c, fX8_init S o x1 x2 x3 x4 q = some S' ∧ FrC S S' [o] [] [o] ∧ m_n S < c ∧ (m_P S' o 4 = some q ∧ m_P S' o 5 = some c) ∧ (m_at S' c 12 ∧ m_L S' c = 3 ∧ ∀ g, g < 3 → m_I S' c g = nI (RD (Eg S q g) g).length) ∧ m_I S' o 0 = x1 ∧ m_I S' o 3 = x2 ∧ m_I S' o 1 = x3 ∧ m_I S' o 2 = x4 := by
  have hn1 := ho.2.1
  have hq1 := hq.2.1
  have hoq : q ≠ o := fun e => by
    have a := hq.2.2
    rw [e, ho.2.2] at a
    omega
  have a1 : ∀ (T : MS) (f : Nat → Int32), m_at T o 9 → m_at (m_sI T o f) o 9 := fun T f h => h
  have key : ∀ (T : MS) (k : Nat) (v : Int32), m_at T o 9 → o_sI T o 9 k v = some (m_sI T o (upd (m_I T o) k v)) := fun T k v h => at_sI h
  have hle : o_le 3 (3 : Int32) = some 3 := by decide
  unfold fX8_init bX8_init_0
  rw [key _ _ _ ho, Option.bind_some, key _ _ _ (a1 _ _ ho), Option.bind_some, key _ _ _ (a1 _ _ (a1 _ _ ho)), Option.bind_some, key _ _ _ (a1 _ _ (a1 _ _ (a1 _ _ ho))), Option.bind_some]
  simp only [mI_same, sI_sI, upd_n (show (3 : Nat) ≠ 0 by decide)]
  generalize hT : m_sI S o (upd (upd (upd (upd (m_I S o) 0 x1) 3 x2) 1 x3) 2 x4) = T
  have tat : ∀ {b k : Nat}, m_at S b k → m_at T b k := fun {b k} h => by rw [← hT]; exact h
  have fT : FrC S T [o] [] [o] := by rw [← hT]; exact FrC.sI (by omega) (by simp)
  have nT : m_n T = m_n S := by rw [← hT]; rfl
  have iT : m_I T o = upd (upd (upd (upd (m_I S o) 0 x1) 3 x2) 1 x3) 2 x4 := by rw [← hT]; exact mI_same
  rw [at_sP (tat ho), Option.bind_some]
  generalize hU : m_sP T o (va_up (m_P T o) 4 (some q)) = U
  have uat : ∀ {b k : Nat}, m_at T b k → m_at U b k := fun {b k} h => by rw [← hU]; exact h
  have fU : FrC T U [o] [] [o] := by rw [← hU]; exact FrC.sP (by simp)
  have nU : m_n U = m_n S := by rw [← hU]; exact nT
  have iU : m_I U = m_I T := by rw [← hU]; rfl
  have pU : m_P U o = va_up (m_P T o) 4 (some q) := by
    rw [← hU]
    exact up_s
  rw [hle, Option.bind_some, Option.bind_some, Option.bind_some, nU]
  generalize hV : m_new U 12 3 = V
  have fV : FrC U V [o] [] [o] := by rw [← hV]; exact FrC.new (by omega)
  have cV : m_at V (m_n S + 1) 12 := by rw [← hV, ← nU]; exact ⟨by omega, Nat.le_refl _, up_s⟩
  have lV : m_L V (m_n S + 1) = 3 := by rw [← hV, ← nU]; exact up_s
  have oV : m_at V o 9 := (uat (tat ho)).fr fV
  have iV : m_I V o = m_I T o := by
    rw [← hV, ← iU]
    show va_up (m_I U) (m_n U + 1) _ o = _
    rw [nU, up_n (by omega)]
  have pV : m_P V o = va_up (m_P T o) 4 (some q) := by
    rw [← hV, ← pU]
    show va_up (m_P U) (m_n U + 1) _ o = _
    rw [nU, up_n (by omega)]
  rw [at_sP oV, Option.bind_some, pV, fin_l]
  generalize hX : m_sP V o (va_up (va_up (m_P T o) 4 (some q)) 5 (some (m_n S + 1))) = X
  have fX : FrC V X [o] [] [o] := by rw [← hX]; exact FrC.sP (by simp)
  have fSX : FrC S X [o] [] [o] := ((fT.tr fU).tr fV).tr fX
  have cX : m_at X (m_n S + 1) 12 := cV.fr fX
  have lX : m_L X (m_n S + 1) = 3 := by rw [← hX]; exact lV
  have oX : m_at X o 9 := oV.fr fX
  have iX : m_I X o = upd (upd (upd (upd (m_I S o) 0 x1) 3 x2) 1 x3) 2 x4 := by rw [← hX, ← iT, ← iV]; rfl
  have pX : m_P X o = va_up (va_up (m_P T o) 4 (some q)) 5 (some (m_n S + 1)) := by rw [← hX]; exact up_s
  have qX : m_at X q 12 := hq.fr fSX
  have lqX : m_L X q = 15 := by rw [(fSX.2.1 q hq.1 hq.2.1).2.1]; exact hL
  have hqo : q ∉ [o] := by simpa using hoq
  have iqX : m_I X q = m_I S q := by
    by_cases q1 : q = 1
    · subst q1
      funext k
      exact fSX.2.2 k (by simp)
    · exact (fSX.2.1 q hq.1 hq.2.1).2.2.1 q1 hqo
  have hE : ∀ {Y : MS}, FrC X Y [m_n S + 1] [] [] → m_I Y q = m_I S q := fun {Y} f => by
    rw [← iqX]
    by_cases q1 : q = 1
    · subst q1
      funext k
      exact f.2.2 k (by simp)
    · exact (f.2.1 q qX.1 qX.2.1).2.2.1 q1 (by simp; omega)
  obtain ⟨s, ⟨Y, hs, fY, kY⟩, he⟩ := lim_inv (step := sX8_init) (K := fun j s => ∃ Y, s = (o, nI j, Y) ∧ FrC X Y [m_n S + 1] [] [] ∧ ∀ g, g < j → m_I Y (m_n S + 1) g = nI (RD (Eg S q g) g).length) 3 (s0 := (o, nI 0, X)) ⟨X, rfl, FrC.rf, fun g hg => by omega⟩ (fun j hj s hs => by
    obtain ⟨Y, rfl, fY, kY⟩ := hs
    have oY : m_at Y o 9 := oX.fr fY
    have cY : m_at Y (m_n S + 1) 12 := cX.fr fY
    have lY : m_L Y (m_n S + 1) = 3 := by rw [(fY.2.1 _ cX.1 cX.2.1).2.1]; exact lX
    have pY : m_P Y o = m_P X o := (fY.2.1 o oX.1 oX.2.1).2.2.2 (by simp)
    have hWd : Wd Y o q := by
      refine ⟨oY, ?_, qX.fr fY, ?_, fun x hx => ?_⟩
      · rw [pY, pX, up_n (by decide), up_s]
      · rw [(fY.2.1 _ qX.1 qX.2.1).2.1]; exact lqX
      · rw [hE fY]; exact hd x hx
    have hEg : Eg Y q j = Eg S q j := by
      funext x
      unfold Eg
      rw [hE fY]
    have p5 : m_P Y o 5 = some (m_n S + 1) := by rw [pY, pX, up_s]
    refine ⟨(o, nI (j + 1), m_sI Y (m_n S + 1) (upd (m_I Y (m_n S + 1)) j (nI (RD (Eg S q j) j).length))), ?_, _, rfl, fY.tr (FrC.sI (by omega) (by simp)), fun g hg => ?_⟩
    · show bX8_init_41 Y o (nI j) = _
      unfold bX8_init_41
      rw [if_neg (show ¬ (3 : Int32) ≤ nI j from nI_ge (b := 3) hj (by omega)), at_gP oY p5, Option.bind_some, at_is oY, Option.bind_some, C_count hWd hj, Option.bind_some, hEg, at_st cY lY (by decide) rfl hj]
      simp only [Option.bind_some, nI_1]
    · rw [mI_same]
      by_cases hgj : g = j
      · rw [hgj, upd_s]
      · rw [upd_n hgj]; exact kY g (by omega))
  have fSY : FrC S Y [o] [] [o] := by
    refine FrC.bigI (b := m_n S + 1) ?_ (by omega)
    exact (fSX.mono (by simp) (by simp) (by simp)).tr (fY.mono (by simp) (by simp) (by simp))
  have iY : m_I Y o = m_I X o := (fY.2.1 o oX.1 oX.2.1).2.2.1 (by omega) (by simp; omega)
  have pY : m_P Y o = m_P X o := (fY.2.1 o oX.1 oX.2.1).2.2.2 (by simp)
  refine ⟨Y, m_n S + 1, ?_, fSY, by omega, ⟨?_, ?_⟩, ⟨cX.fr fY, ?_, kY⟩, ?_, ?_, ?_, ?_⟩
  · rw [show lim sX8_init (o, 0, X) = _ from he, hs]
    apply lim_end
    show bX8_init_41 Y o (nI 3) = _
    unfold bX8_init_41
    rw [if_pos (by decide)]
  · rw [pY, pX, up_n (by decide), up_s]
  · rw [pY, pX, up_s]
  · rw [(fY.2.1 _ cX.1 cX.2.1).2.1]; exact lX
  · rw [iY, iX, upd_n (by decide), upd_n (by decide), upd_n (by decide), upd_s]
  · rw [iY, iX, upd_n (by decide), upd_n (by decide), upd_s]
  · rw [iY, iX, upd_n (by decide), upd_s]
  · rw [iY, iX, upd_s]
def rfz (o : Option Nat) : Int32 := match o with
  | some r => nI r
  | none => -1
/-- the reference's rows with one more wire -/
def addW (I : Nat → Nat → Int32) (nw : Nat) (x1 x2 x3 : Int32) (D : Nat → Int32) : Nat → Nat → Int32 := fun r =>
  if r = 1 then upd (upd (upd (I 1) 8 (nI (nw + 1))) 18 0) 0 0
  else if r = 8 then upd (I 8) nw x1
  else if r = 9 then upd (I 9) nw x2
  else if r = 10 then upd (I 10) nw x3
  else if r = 11 then fil (I 11) (15 * nw) 15 D
  else if r = 12 then upd (I 12) nw (nI (RD (fun x => D (5 + x)) 1).length)
  else if r = 13 then upd (I 13) nw (rfz (RD (fun x => D (5 + x)) 1)[0]?)
  else I r
section AW
variable {x1 x2 x3 : Int32} {D : Nat → Int32}
theorem addW_12 : addW I nw x1 x2 x3 D 12 = upd (I 12) nw (nI (RD (fun x => D (5 + x)) 1).length) := by
  unfold addW
  rw [if_neg (by decide), if_neg (by decide), if_neg (by decide), if_neg (by decide), if_neg (by decide), if_pos rfl]
theorem addW_13 : addW I nw x1 x2 x3 D 13 = upd (I 13) nw (rfz (RD (fun x => D (5 + x)) 1)[0]?) := by
  unfold addW
  rw [if_neg (by decide), if_neg (by decide), if_neg (by decide), if_neg (by decide), if_neg (by decide), if_neg (by decide), if_pos rfl]
theorem addW_o {r : Nat} (h : r ≠ 1) (h2 : r < 8 ∨ 13 < r) : addW I nw x1 x2 x3 D r = I r := by
  unfold addW
  rw [if_neg h, if_neg (by omega), if_neg (by omega), if_neg (by omega), if_neg (by omega), if_neg (by omega), if_neg (by omega)]
theorem addW_f : FrR I (addW I nw x1 x2 x3 D) [8, 9, 10, 11, 12, 13] [0, 8, 18] := by
  refine ⟨fun a h1 h2 => ?_, fun k hk => ?_⟩
  · simp only [List.mem_cons, List.not_mem_nil, or_false, not_or] at h2
    exact addW_o h1 (by omega)
  · simp only [List.mem_cons, List.not_mem_nil, or_false, not_or] at hk
    show upd (upd (upd (I 1) 8 (nI (nw + 1))) 18 0) 0 0 k = _
    rw [upd_n hk.1, upd_n hk.2.2, upd_n hk.2.1]
theorem addW_D : Dig (addW I nw x1 x2 x3 D) nw 1 = fun x => if x < 10 then D (5 + x) else I 11 (15 * nw + 5 * 1 + x) := by
  funext x
  unfold Dig
  show fil (I 11) (15 * nw) 15 D (15 * nw + 5 * 1 + x) = _
  by_cases h : x < 10
  · rw [if_pos h, Nat.add_assoc, fil_i (by omega)]
  · rw [if_neg h, fil_o (by omega)]
theorem wir_add {S3 S4 : MS} {o q c e' p : Nat} (hW : Wir S I np nw ew ws) (hP : Pos S I np ep ps) (hn : nw < 30) (h50 : 50 ≤ m_n S) (hp : p < np) (hd : ∀ x, x < 15 → dgR (D x)) (ho : m_n S < o) (hq : m_n S < q) (hc : m_n S < c) (f1 : FrC S S3 [] [] []) (oat : m_at S3 o 9) (qat : m_at S3 q 12) (cat : m_at S3 c 12) (lq : m_L S3 q = 15) (lc : m_L S3 c = 3) (po : m_P S3 o 4 = some q ∧ m_P S3 o 5 = some c) (iq : ∀ x, x < 15 → m_I S3 q x = D x) (ic : ∀ g, g < 3 → m_I S3 c g = nI (RD (fun x => D (5 * g + x)) g).length) (i0 : m_I S3 o 0 = nI p) (i3 : m_I S3 o 3 = I 5 p) (i1 : m_I S3 o 1 = x2) (i2 : m_I S3 o 2 = x3) (f2 : FrC S3 S4 [4] [] [4, ew]) (hL : Lst S4 4 (nw + 1) 9 e' (va_up ws nw o)) (hew : ew = 0 ∨ m_at S3 ew 15) : Wir S4 (addW I nw (nI p) x2 x3 D) np (nw + 1) e' (va_up ws nw o) := by
  refine ⟨by omega, rfl, hL, fun w hw => ?_⟩
  have fx2 : Fx S3 S4 [4] [4, ew] := by
    refine ⟨by simp, fun a ha => ?_⟩
    have k4 : m_K S3 4 = 0 := by
      have hc4 := hW.2.2.1.1.1
      rw [(f1.2.1 4 hc4.1 hc4.2.1).1]
      exact hc4.2.2
    simp only [List.mem_cons, List.not_mem_nil, or_false] at ha
    rcases ha with ha | ha
    · rw [ha]; exact .inl k4
    · rcases hew with h0 | h0
      · omega
      · rw [ha]; exact .inr (.inl h0.2.2)
  by_cases hwn : w = nw
  · subst hwn
    have hD : ∀ g, g < 3 → RD (Dig (addW I w (nI p) x2 x3 D) w g) g = RD (fun x => D (5 * g + x)) g := fun g hg => RD_c (fun x hx => by
      show fil (I 11) (15 * w) 15 D (15 * w + 5 * g + x) = _
      rw [Nat.add_assoc, fil_i (by omega)]) g
    refine ⟨⟨q, c, ?_, ?_, ⟨?_, cat.fr f2, ?_⟩, ?_, ?_, p, hp, ?_, ?_, ?_, ?_, ?_⟩, ?_, ?_⟩
    · rw [up_s]; omega
    · rw [up_s]
      refine Wd.fr ⟨oat, po.1, qat, lq, fun x hx => ?_⟩ f2 fx2 (by omega) (by omega)
      rw [iq x hx]
      exact hd x hx
    · rw [up_s, f2.hiP fx2 oat (by omega) (by omega)]
      exact po.2
    · rw [(f2.2.1 c cat.1 cat.2.1).2.1]
      exact lc
    · intro x hx
      rw [f2.hi fx2 qat (by omega), iq x hx]
      show _ = fil (I 11) (15 * w) 15 D (15 * w + x)
      rw [fil_i hx]
    · intro g hg
      rw [f2.hi fx2 cat (by omega), hD g hg]
      exact ic g hg
    · show upd (I 8) w (nI p) w = _
      rw [upd_s]
    · rw [up_s, f2.hi fx2 oat (by omega)]
      exact i0
    · rw [up_s, f2.hi fx2 oat (by omega), i3, addW_o (by decide) (by omega)]
    · rw [up_s, f2.hi fx2 oat (by omega), i1]
      show _ = upd (I 9) w x2 w
      rw [upd_s]
    · rw [up_s, f2.hi fx2 oat (by omega), i2]
      show _ = upd (I 10) w x3 w
      rw [upd_s]
    · rw [addW_12, upd_s]
      unfold rmy
      rw [hD 1 (by omega)]
    · rw [addW_13, upd_s]
      unfold rf1
      have e : (fun x => D (5 * 1 + x)) = fun x => D (5 + x) := by funext x; rw [Nat.mul_one]
      rw [hD 1 (by omega), e]
      generalize (RD (fun x => D (5 + x)) 1)[0]? = o
      cases o <;> rfl
  · rw [up_n hwn]
    have hw : w < nw := by omega
    obtain ⟨b1, b2⟩ := hW.2.2.2 w hw
    have fx1 : Fx S S3 [] [] := ⟨by simp, by simp⟩
    have e11 : ∀ x, x < 15 → addW I nw (nI p) x2 x3 D 11 (15 * w + x) = I 11 (15 * w + x) := fun x hx => by
      show fil (I 11) (15 * nw) 15 D (15 * w + x) = _
      rw [fil_o (by omega)]
    have c1 : wiC S3 I np (ws w) w := b1.fr f1 fx1 (fun _ _ => rfl) (Nat.le_refl _) rfl rfl rfl (fun _ _ => rfl)
    refine ⟨c1.fr f2 fx2 (fun p _ => by rw [addW_o (by decide) (by omega)]) (Nat.le_refl _) ?_ ?_ ?_ e11, b2.st e11 ?_ ?_⟩
    · show upd (I 8) nw _ w = _
      rw [upd_n hwn]
    · show upd (I 9) nw _ w = _
      rw [upd_n hwn]
    · show upd (I 10) nw _ w = _
      rw [upd_n hwn]
    · rw [addW_12, upd_n hwn]
    · rw [addW_13, upd_n hwn]
end AW
end WN
