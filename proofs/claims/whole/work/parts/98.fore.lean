/-! forecasts: one sign read, both sides -/
section FO
variable {S S' : MS} {I I' : Nat → Nat → Int32} {J : Nat → Nat → Int64} {c q1 q2 q3 m w : Nat}
def cd : Nat → Int32
  | 0 => 110
  | 1 => 115
  | 2 => 119
  | 3 => 101
  | _ => 109
def rg (x r : Int32) : Prop := ∃ k, k < 5 ∧ x = cd k ∧ r = nI k
def sg (x r : Int32) : Prop := x = 60 ∧ r = 0 ∨ x = 62 ∧ r = 1
def fcG (S : MS) (c q1 q2 q3 : Nat) : Prop := (50 < c ∧ 50 < q1 ∧ 50 < q2 ∧ 50 < q3) ∧ (c ≠ q1 ∧ c ≠ q2 ∧ c ≠ q3 ∧ q1 ≠ q2 ∧ q1 ≠ q3 ∧ q2 ≠ q3) ∧ m_at S c 3 ∧ (m_P S c 1 = some q1 ∧ m_P S c 2 = some q2 ∧ m_P S c 3 = some q3) ∧ (m_at S q1 12 ∧ m_L S q1 = 5) ∧ (m_at S q2 12 ∧ m_L S q2 = 5) ∧ (m_at S q3 12 ∧ m_L S q3 = 5)
def Rm (S : MS) (I : Nat → Nat → Int32) (c q1 q2 q3 m w : Nat) : Prop := fcG S c q1 q2 q3 ∧ (m ≤ 4 ∧ w ≤ 7) ∧ m_I S c 0 = nI (if w < 3 then m else m + 1) ∧ m_I S c 4 = nI (if w < 3 then w else 3) ∧ (1 ≤ w → m_I S c 5 = nI (w - 2)) ∧ I 1 49 = nI m ∧ ∀ j, j < 5 → (j < m ∨ j = m ∧ 1 ≤ w → rg (m_I S q1 j) (I 37 j)) ∧ (j < m ∨ j = m ∧ 2 ≤ w → sg (m_I S q2 j) (I 38 j)) ∧ (j < m ∨ j = m ∧ 1 ≤ w → m_I S q3 j = I 39 j) ∧ (m < j ∨ j = m ∧ w = 0 → m_I S q3 j = 0)
theorem creg (x : Int32) : (∃ r, r < 5 ∧ x = cd r ∧ fX10_regionOf x = some (nI r) ∧ ∀ S c, fX2_takesRegion S c x = bX2_takesRegion_35 S c x 1) ∨ (fX10_regionOf x = some (-1) ∧ ∀ S c, fX2_takesRegion S c x = bX2_takesRegion_35 S c x 0) := by
  unfold fX10_regionOf bX10_regionOf_0 fX2_takesRegion bX2_takesRegion_0 bX2_takesRegion_30
  by_cases h0 : x = 110
  · exact .inl ⟨0, by omega, h0, by rw [if_pos h0]; rfl, fun S c => by rw [if_pos h0]⟩
  rw [if_neg h0]
  by_cases h1 : x = 115
  · exact .inl ⟨1, by omega, h1, by rw [if_pos h1]; rfl, fun S c => by rw [if_neg h0, if_pos h1]⟩
  rw [if_neg h1]
  by_cases h2 : x = 119
  · exact .inl ⟨2, by omega, h2, by rw [if_pos h2]; rfl, fun S c => by rw [if_neg h0, if_neg h1, if_pos h2]⟩
  rw [if_neg h2]
  by_cases h3 : x = 101
  · exact .inl ⟨3, by omega, h3, by rw [if_pos h3]; rfl, fun S c => by rw [if_neg h0, if_neg h1, if_neg h2, if_pos h3]⟩
  rw [if_neg h3]
  by_cases h4 : x = 109
  · exact .inl ⟨4, by omega, h4, by rw [if_pos h4]; rfl, fun S c => by rw [if_neg h0, if_neg h1, if_neg h2, if_neg h3, if_pos h4]⟩
  rw [if_neg h4]
  exact .inr ⟨rfl, fun S c => by rw [if_neg h0, if_neg h1, if_neg h2, if_neg h3, if_neg h4]⟩
/-- what the reference does with one sign -/
noncomputable def tl (S : MS) (x1 x2 x3 x4 v24 : Int32) : Option ((Nat × Int32 × Int32 × Int32 × Int32 × MS) ⊕ (Int32 × MS)) :=
  (fX10_in (v24.toInt64) (48 : Int64) (57 : Int64)).bind fun v36 =>
  if x3 = 0 then
    (fX10_regionOf v24).bind fun v47 =>
    if v47 < 0 then
      bX10_read_82 S 1 x1 x2 x3 x4 v24 v36
    else
      (o_gP S 1 11 50).bind fun v54 =>
      (o_gI S 1 11 49).bind fun v58 =>
      (fX10_regionOf v24).bind fun v63 =>
      (o_st S v54 12 v58 v63).bind fun S66 =>
      (o_gP S66 1 11 52).bind fun v68 =>
      (o_gI S66 1 11 49).bind fun v72 =>
      (o_st S66 v68 12 v72 (0 : Int32)).bind fun S76 =>
      bX10_read_214 S76 1 x1 x2 (1 : Int32) x4
  else
    bX10_read_82 S 1 x1 x2 x3 x4 v24 v36
def Tk (S : MS) (I : Nat → Nat → Int32) (J : Nat → Nat → Int64) (c q1 q2 q3 w : Nat) (x : Int32) : Prop := (fX2_takes S c x = some (0, S) ∧ ∀ x1 x2 x4, tl (mkR I J) x1 x2 (nI w) x4 x = some (.inr (x4, mkR I J))) ∨ ∃ S' I' m' w', fX2_takes S c x = some (1, S') ∧ (∀ x1 x2 x4, tl (mkR I J) x1 x2 (nI w) x4 x = some (.inl (1, x1, x2, nI w', x4 + 1, mkR I' J))) ∧ Rm S' I' c q1 q2 q3 m' w' ∧ FrC S S' [c, q1, q2, q3] [] [] ∧ FrR I I' [37, 38, 39] [49]
theorem tk_reg (h : Rm S I c q1 q2 q3 m 0) (x : Int32) : Tk S I J c q1 q2 q3 0 x := by
  obtain ⟨g, ⟨hm, -⟩, h0, h4, h5, h49, hj⟩ := h
  have g' := g
  obtain ⟨⟨b0, b1, b2', b3⟩, ⟨n1, n2, n3, n12, n13, n23⟩, ac, ⟨p1, p2, p3⟩, ⟨a1, l1⟩, ⟨a2, l2⟩, ⟨a3, l3⟩⟩ := g
  have e4 : m_I S c 4 = 0 := h4
  have e0 : m_I S c 0 = nI m := h0
  unfold Tk fX2_takes bX2_takes_0 tl
  rw [at_gI ac, Option.bind_some, e4, if_pos rfl, at_is ac, Option.bind_some, R_inI x (show (48 : Int64).toInt = 48 from rfl) (show (57 : Int64).toInt = 57 from rfl)]
  rcases creg x with ⟨r, hr, hx, e1, e2⟩ | ⟨e1, e2⟩
  · right
    rw [e1, e2]
    have s1 : ∀ f, m_at (m_sI S q1 f) c 3 := fun f => ac
    unfold bX2_takesRegion_35
    rw [if_neg (by decide), at_gI ac, Option.bind_some, e0, if_pos (show nI m < 5 by rw [i_lt, nI_toInt (by omega)]; show (m : Int) < 5; omega), at_gP ac p1, Option.bind_some, Option.bind_some, at_st a1 l1 (by decide) rfl (by omega), Option.bind_some, at_sI (s1 _), Option.bind_some, at_sI (show m_at (m_sI (m_sI S q1 _) c _) c 3 from ac), Option.bind_some, b2_s, zb1, Option.bind_some, mI_same, mI_ne n1, sI_sI]
    refine ⟨_, va_up (va_up I 37 (upd (I 37) m (nI r))) 39 (upd (I 39) m 0), m, 1, rfl, fun x1 x2 x4 => ?_, ⟨g', ⟨hm, by omega⟩, ?_, ?_, fun _ => ?_, ?_, fun j hj5 => ?_⟩, (FrC.sI (by omega) (by simp)).tr (FrC.sI (by omega) (by simp)), ?_⟩
    · unfold bX10_read_214
      rw [Option.bind_some, if_pos (show nI 0 = 0 from rfl), Option.bind_some, if_neg (nI_pos (by omega)), rP50, Option.bind_some, rI, h49, Option.bind_some, Option.bind_some, rS37 rfl (by omega), Option.bind_some, rP52, Option.bind_some, rI, up_n (show (1 : Nat) ≠ 37 by decide), h49, Option.bind_some, rS39 rfl (by omega), Option.bind_some, up_n (show (39 : Nat) ≠ 37 by decide), Option.bind_some]
      rfl
    · rw [mI_same, upd_n (by decide), upd_n (by decide)]; exact e0
    · rw [mI_same, upd_s]; rfl
    · rw [mI_same, upd_n (by decide), upd_s]; rfl
    · rw [up_n (by decide), up_n (by decide)]; exact h49
    · obtain ⟨j1, j2, j3, j4⟩ := hj j hj5
      rw [mI_ne (Ne.symm n1), mI_same, mI_ne (Ne.symm n2), mI_ne (Ne.symm n12), mI_ne (Ne.symm n3), mI_ne (Ne.symm n13), up_n (show (37 : Nat) ≠ 39 by decide), up_s, up_n (show (38 : Nat) ≠ 39 by decide), up_n (show (38 : Nat) ≠ 37 by decide), up_s]
      refine ⟨fun q => ?_, fun q => j2 (by omega), fun q => ?_, fun q => j4 (by omega)⟩
      · by_cases hjm : j = m
        · rw [hjm, upd_s, upd_s]; exact ⟨r, hr, hx, rfl⟩
        · rw [upd_n hjm, upd_n hjm]; exact j1 (by omega)
      · by_cases hjm : j = m
        · rw [hjm, upd_s, ← hjm]; exact j4 (by omega)
        · rw [upd_n hjm]; exact j3 (by omega)
    · exact (FrR.up (P := [37, 38, 39]) (Q := [49]) (by decide) (by simp)).tr (FrR.up (by decide) (by simp))
  · left
    rw [e1, e2]
    unfold bX2_takesRegion_35 bX2_takesRegion_48
    refine ⟨by rw [if_pos rfl, b2_s, zb0, Option.bind_some], fun x1 x2 x4 => ?_⟩
    unfold bX10_read_82 bX10_read_127 bX10_read_176 bX10_read_211
    rw [Option.bind_some, if_pos (show nI 0 = 0 from rfl), Option.bind_some, if_pos (by decide), if_neg (by decide), if_pos (by decide), if_pos (by decide)]
theorem tk_sgn (h : Rm S I c q1 q2 q3 m 1) (x : Int32) : Tk S I J c q1 q2 q3 1 x := by
  obtain ⟨g, ⟨hm, -⟩, h0, h4, h5, h49, hj⟩ := h
  have g' := g
  obtain ⟨⟨b0, b1, b2', b3⟩, ⟨n1, n2, n3, n12, n13, n23⟩, ac, ⟨p1, p2, p3⟩, ⟨a1, l1⟩, ⟨a2, l2⟩, ⟨a3, l3⟩⟩ := g
  have e4 : m_I S c 4 = 1 := h4
  have e0 : m_I S c 0 = nI m := h0
  unfold Tk fX2_takes bX2_takes_0 tl
  rw [at_gI ac, Option.bind_some, e4, if_neg (show ¬ (1 : Int32) = 0 by decide), if_pos rfl, at_is ac, Option.bind_some, R_inI x (show (48 : Int64).toInt = 48 from rfl) (show (57 : Int64).toInt = 57 from rfl)]
  have yes : ∀ z : Int32, sg x z → fX2_takesSign S c x = bX2_takesSign_14 S c x → (∀ x1 x2 x4, bX10_read_82 (mkR I J) 1 x1 x2 (nI 1) x4 x (bz (48 ≤ x.toInt ∧ x.toInt ≤ 57)) = bX10_read_121 (mkR I J) 1 x1 x2 x4 38 (nI m) z) → ∃ S' I' m' w', ((b2 (fX2_takesSign S c x) fun v40 S40 => (o_zb v40).bind fun z43 => some (z43, S40)) = some (1, S')) ∧ (∀ x1 x2 x4, bX10_read_82 (mkR I J) 1 x1 x2 (nI 1) x4 x (bz (48 ≤ x.toInt ∧ x.toInt ≤ 57)) = some (.inl (1, x1, x2, nI w', x4 + 1, mkR I' J))) ∧ Rm S' I' c q1 q2 q3 m' w' ∧ FrC S S' [c, q1, q2, q3] [] [] ∧ FrR I I' [37, 38, 39] [49] := fun z hz e1 e2 => by
    rw [e1]
    unfold bX2_takesSign_14
    rw [at_gP ac p2, Option.bind_some, at_gI ac, Option.bind_some, e0, at_st a2 l2 (by decide) rfl (by omega), Option.bind_some, at_sI (show m_at (m_sI S q2 _) c 3 from ac), Option.bind_some, b2_s, zb1, Option.bind_some, mI_ne n2]
    refine ⟨_, va_up I 38 (upd (I 38) m z), m, 2, rfl, fun x1 x2 x4 => ?_, ⟨g', ⟨hm, by omega⟩, ?_, ?_, fun _ => ?_, ?_, fun j hj5 => ?_⟩, (FrC.sI (by omega) (by simp)).tr (FrC.sI (by omega) (by simp)), FrR.up (by decide) (by simp)⟩
    · rw [e2]
      unfold bX10_read_121 bX10_read_214
      have hz2 : o_zb z = some z := by rcases hz with ⟨-, e⟩ | ⟨-, e⟩ <;> rw [e] <;> rfl
      rw [hz2, Option.bind_some, rS38 rfl (by omega), Option.bind_some, Option.bind_some]
      rfl
    · rw [mI_same, upd_n (by decide)]; exact e0
    · rw [mI_same, upd_s]; rfl
    · rw [mI_same, upd_n (by decide)]; exact h5 (by omega)
    · rw [up_n (by decide)]; exact h49
    · obtain ⟨j1, j2, j3, j4⟩ := hj j hj5
      rw [mI_ne (Ne.symm n1), mI_ne n12, mI_ne (Ne.symm n2), mI_same, mI_ne (Ne.symm n3), mI_ne (Ne.symm n23), up_n (show (37 : Nat) ≠ 38 by decide), up_s, up_n (show (39 : Nat) ≠ 38 by decide)]
      refine ⟨fun q => j1 (by omega), fun q => ?_, fun q => j3 (by omega), fun q => j4 (by omega)⟩
      by_cases hjm : j = m
      · rw [hjm, upd_s, upd_s]; exact hz
      · rw [upd_n hjm, upd_n hjm]; exact j2 (by omega)
  have tl1 : ∀ x1 x2 x4, ((some (bz (48 ≤ x.toInt ∧ x.toInt ≤ 57))).bind fun v36 => if nI 1 = 0 then (fX10_regionOf x).bind fun v47 => if v47 < 0 then bX10_read_82 (mkR I J) 1 x1 x2 (nI 1) x4 x v36 else (o_gP (mkR I J) 1 11 50).bind fun v54 => (o_gI (mkR I J) 1 11 49).bind fun v58 => (fX10_regionOf x).bind fun v63 => (o_st (mkR I J) v54 12 v58 v63).bind fun S66 => (o_gP S66 1 11 52).bind fun v68 => (o_gI S66 1 11 49).bind fun v72 => (o_st S66 v68 12 v72 (0 : Int32)).bind fun S76 => bX10_read_214 S76 1 x1 x2 (1 : Int32) x4 else bX10_read_82 (mkR I J) 1 x1 x2 (nI 1) x4 x v36) = bX10_read_82 (mkR I J) 1 x1 x2 (nI 1) x4 x (bz (48 ≤ x.toInt ∧ x.toInt ≤ 57)) := fun x1 x2 x4 => by rw [Option.bind_some, if_neg (by decide)]
  simp only [tl1]
  by_cases h60 : x = 60
  · right
    refine yes 0 (.inl ⟨h60, rfl⟩) ?_ (fun x1 x2 x4 => ?_)
    · unfold fX2_takesSign bX2_takesSign_0
      rw [if_pos h60]
    · unfold bX10_read_82 bX10_read_101
      rw [if_pos (by decide), if_pos h60, rP51, Option.bind_some, rI, h49, Option.bind_some, if_neg (by rw [h60]; decide)]
  · by_cases h62 : x = 62
    · right
      refine yes 1 (.inr ⟨h62, rfl⟩) ?_ (fun x1 x2 x4 => ?_)
      · unfold fX2_takesSign bX2_takesSign_0
        rw [if_neg h60, if_pos h62]
      · unfold bX10_read_82 bX10_read_101
        rw [if_pos (by decide), if_neg h60, if_pos h62, rP51, Option.bind_some, rI, h49, Option.bind_some, if_pos h62]
    · left
      unfold fX2_takesSign bX2_takesSign_0
      refine ⟨by rw [if_neg h60, if_neg h62, b2_s, zb0, Option.bind_some], fun x1 x2 x4 => ?_⟩
      unfold bX10_read_82 bX10_read_127 bX10_read_176 bX10_read_211
      rw [if_pos (by decide), if_neg h60, if_neg h62, if_pos (by decide), if_pos (by decide)]
end FO
