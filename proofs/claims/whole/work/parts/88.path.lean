/-! the path of a front: both sides go the same way -/
noncomputable def pkc (lo hi : Nat → Nat) (b d y l : Nat) : Nat := @dite _ (∃ c, isPk lo hi b 1000 d y l c) (Classical.propDecidable _) (fun h => Classical.choose h) (fun _ => 0)
theorem pkc_e {lo hi : Nat → Nat} {b d y l c : Nat} (h : isPk lo hi b 1000 d y l c) : pkc lo hi b d y l = c := by
  unfold pkc
  rw [dif_pos ⟨c, h⟩]
  exact pk_u (Classical.choose_spec (⟨c, h⟩ : ∃ c, isPk lo hi b 1000 d y l c)) h
/-- y and the change that came there, k steps behind the start -/
noncomputable def pth (lo hi : Nat → Nat) (b a s : Nat) : Nat → Nat × Nat
  | 0 => (s, 5)
  | k + 1 => ((pth lo hi b a s k).1 + pkc lo hi b (b - a - k - 1) (pth lo hi b a s k).1 (pth lo hi b a s k).2 - 2, pkc lo hi b (b - a - k - 1) (pth lo hi b a s k).1 (pth lo hi b a s k).2)
theorem pth_s {lo hi : Nat → Nat} {b a s k c : Nat} (h : isPk lo hi b 1000 (b - a - k - 1) (pth lo hi b a s k).1 (pth lo hi b a s k).2 c) : pth lo hi b a s (k + 1) = ((pth lo hi b a s k).1 + c - 2, c) := by
  show ((pth lo hi b a s k).1 + pkc lo hi b (b - a - k - 1) (pth lo hi b a s k).1 (pth lo hi b a s k).2 - 2, pkc lo hi b (b - a - k - 1) (pth lo hi b a s k).1 (pth lo hi b a s k).2) = _
  rw [pkc_e h]
theorem pth_ok {lo hi : Nat → Nat} {b a s : Nat} (hab : a < b) (hb : b < 12) (hs : s < 12) (hl : letb lo hi a s = true) (hg : gg lo hi b 1000 (b - a) s 5 < 1000) : ∀ k, k ≤ b - a → (pth lo hi b a s k).1 < 12 ∧ letb lo hi (a + k) (pth lo hi b a s k).1 = true ∧ (pth lo hi b a s k).2 < 6 ∧ gg lo hi b 1000 (b - a - k) (pth lo hi b a s k).1 (pth lo hi b a s k).2 < 1000 := by
  intro k
  induction k with
  | zero => intro _; exact ⟨hs, hl, by show 5 < 6; omega, hg⟩
  | succ k ih =>
    intro hk
    obtain ⟨h1, h2, h3, h4⟩ := ih (by omega)
    have e : b - a - k = (b - a - k - 1) + 1 := by omega
    rw [e] at h4
    obtain ⟨c, hc⟩ := pk_ex h4
    have hs' := pk_sim (B' := 1000) (by omega) (by omega) (by omega) (by omega) h4 hc
    rw [pth_s hc]
    obtain ⟨o1, o2, o3⟩ := okc_b hc.2.1.1
    have hx : b - (b - a - k - 1) = a + (k + 1) := by omega
    rw [hx] at o3
    have hc5 := hc.1
    refine ⟨by show _ + c - 2 < 12; omega, o3, by show c < 6; omega, ?_⟩
    have := hs'.2.2.2
    rw [show b - a - (k + 1) = b - a - k - 1 by omega]
    exact this
section PT
variable {S : MS} {I : Nat → Nat → Int32} {J : Nat → Nat → Int64} {lo hi : Nat → Nat}
theorem C_bestChange {b d x y l : Nat} (hC : CS S) (hd : d < b) (hb : b < 12) (hx : x = b - d - 1) (hy : y < 12) (hl : l < 6) (h : ctb S lo hi b (x + 1)) (hg : gg lo hi b 1000 (d + 1) y l < 1000) : ∃ c, fX5_bestChange S 16 (nI x) (nI y) (nI l) = some (nI c) ∧ isPk lo hi b 1000 d y l c := by
  have hxd : b - d - 1 = x := hx.symm
  obtain ⟨s, ⟨w, hs, hw⟩, he⟩ := lim_inv (step := sX5_bestChange S) (K := fun c s => ∃ w, s = (16, nI x, nI y, nI l, nI w, nI (gfo lo hi 1000 (b - d) y l (gg lo hi b 1000 d) c), nI c) ∧ (gfo lo hi 1000 (b - d) y l (gg lo hi b 1000 d) c < 1000 → w < c ∧ okc lo hi (b - d) y w = true ∧ bnd l w + gg lo hi b 1000 d (y + w - 2) w = gfo lo hi 1000 (b - d) y l (gg lo hi b 1000 d) c ∧ ∀ ch, ch < w → okc lo hi (b - d) y ch = true → gfo lo hi 1000 (b - d) y l (gg lo hi b 1000 d) c < bnd l ch + gg lo hi b 1000 d (y + ch - 2) ch)) 5 (s0 := (16, nI x, nI y, nI l, nI 2, nI (gfo lo hi 1000 (b - d) y l (gg lo hi b 1000 d) 0), nI 0)) ⟨2, rfl, fun q => absurd q (Nat.lt_irrefl _)⟩ (fun c hc s hs => by
    obtain ⟨w, rfl, hw⟩ := hs
    have hle := gfo_le lo hi 1000 (b - d) y l (gg lo hi b 1000 d) c
    have hlb := fun ch h1 h2 => gfo_lb (lo := lo) (hi := hi) (B := 1000) (x := b - d) (y := y) (l := l) (g := gg lo hi b 1000 d) c ch h1 h2
    have hs' : gfo lo hi 1000 (b - d) y l (gg lo hi b 1000 d) (c + 1) = gst lo hi (b - d) y l (gg lo hi b 1000 d) c (gfo lo hi 1000 (b - d) y l (gg lo hi b 1000 d) c) := rfl
    have hcb : cst1 lo hi b x y l c ≤ 2000 := by
      have hbd := bnd_le (l := l) (ch := c) (by omega) hc
      unfold cst1
      split
      · have := ccv_le (lo := lo) (hi := hi) b (x + 1) (y + c - 2) c
        omega
      · omega
    have step : ∀ m, m ≤ 1000 → sX5_bestChange S (16, nI x, nI y, nI l, nI w, nI m, nI c) = some (.inl (16, nI x, nI y, nI l, nI (if m ≤ cst1 lo hi b x y l c then w else c), nI (if m ≤ cst1 lo hi b x y l c then m else cst1 lo hi b x y l c), nI (c + 1))) := fun m hm => by
      show bX5_bestChange_11 S 16 (nI x) (nI y) (nI l) (nI w) (nI m) (nI c) = _
      unfold bX5_bestChange_11 bX5_bestChange_43
      rw [if_neg (show ¬ (5 : Int32) ≤ nI c from nI_ge (b := 5) hc (by omega)), cIs16 hC, Option.bind_some, C_costBy hC (by omega) hy hl hc h, Option.bind_some, Option.bind_some, nI_1, Option.bind_some]
      by_cases hq : m ≤ cst1 lo hi b x y l c
      · rw [if_pos (nI_le hq (by omega)), if_pos hq, if_pos hq]
      · rw [if_neg (nI_ge (by omega) (by omega)), if_neg hq, if_neg hq]
    refine ⟨_, step _ hle, ?_⟩
    rw [hs']
    generalize gfo lo hi 1000 (b - d) y l (gg lo hi b 1000 d) c = m at *
    unfold gst
    by_cases ho : okc lo hi (b - d) y c = true
    · have hce := cst1_ok (l := l) (show d < b by omega) ho
      rw [hxd] at hce
      rw [if_pos ho, hce]
      by_cases hm : m ≤ bnd l c + gg lo hi b 1000 d (y + c - 2) c
      · rw [if_pos hm, if_pos hm, Nat.min_eq_left hm]
        refine ⟨w, rfl, fun q => ?_⟩
        obtain ⟨a1, a2, a3, a4⟩ := hw q
        exact ⟨by omega, a2, a3, a4⟩
      · rw [if_neg hm, if_neg hm, Nat.min_eq_right (by omega)]
        refine ⟨c, rfl, fun q => ⟨by omega, ho, rfl, fun ch h1 h2 => ?_⟩⟩
        have := hlb ch h1 h2
        omega
    · have hcn := cst1_no (l := l) (show d < b by omega) ho
      rw [hxd] at hcn
      rw [if_neg ho, if_pos (by omega), if_pos (by omega)]
      refine ⟨w, rfl, fun q => ?_⟩
      obtain ⟨a1, a2, a3, a4⟩ := hw q
      exact ⟨by omega, a2, a3, a4⟩)
  obtain ⟨a1, a2, a3, a4⟩ := hw hg
  refine ⟨w, ?_, a1, ⟨a2, a3⟩, fun c' hc' q => ?_⟩
  · unfold fX5_bestChange bX5_bestChange_0
    rw [fin_l, show lim (sX5_bestChange S) (16, nI x, nI y, nI l, 2, 1000, 0) = _ from he, hs]
    apply lim_end
    show bX5_bestChange_11 S 16 (nI x) (nI y) (nI l) (nI w) _ (nI 5) = _
    unfold bX5_bestChange_11
    rw [if_pos (by decide)]
  · have h1 := a4 c' hc' q.1
    have h2 : bnd l c' + gg lo hi b 1000 d (y + c' - 2) c' = gfo lo hi 1000 (b - d) y l (gg lo hi b 1000 d) 5 := q.2
    omega
theorem yc_i {y c : Nat} (h : 2 ≤ y + c) (hb : y + c < 2 ^ 30) : nI y + (nI c - 2) = nI (y + c - 2) := by
  have e : nI (y + c) = nI (y + c - 2) + 2 := by rw [show (2 : Int32) = nI 2 from rfl, nI_add]; congr 1; omega
  rw [Int32.sub_eq_add_neg, ← Int32.add_assoc, nI_add, ← Int32.sub_eq_add_neg, e, Int32.add_sub_cancel]
/-- a new front of the class -/
theorem C_drawn {a b s kd : Nat} (hC : CS S) (hab : a < b) (hb : b < 12) (hs : s < 12) (hl : letb lo hi a s = true) (hg : gg lo hi b 1000 (b - a) s 5 < 1000) (hct : ∀ x, a ≤ x → x ≤ b → ctb S lo hi b x) : ∃ S' o q, fX5_drawn S 16 (nI kd) (nI a) (nI b) (nI s) = some (o, S') ∧ FrC S S' [] [] [] ∧ m_n S < o ∧ m_n S < q ∧ m_at S' o 4 ∧ m_P S' o 4 = some q ∧ m_at S' q 12 ∧ m_L S' q = 12 ∧ (m_I S' o 0 = nI kd ∧ m_I S' o 1 = nI a ∧ m_I S' o 2 = nI b ∧ m_I S' o 3 = nI (gg lo hi b 1000 (b - a) s 5)) ∧ ∀ k, k ≤ b - a → m_I S' q (a + k) = nI (pth lo hi b a s k).1 := by
  have h50 := hC.1
  have hpok := pth_ok hab hb hs hl hg
  have hle : o_le 12 (12 : Int32) = some 12 := by decide
  have f1 : FrC S (m_new S 12 12) [] [] [] := FrC.new (by omega)
  have C1 : CS (m_new S 12 12) := hC.fr f1 (by simp) (by simp)
  have q1 : m_at (m_new S 12 12) (m_n S + 1) 12 := ⟨by omega, Nat.le_refl _, up_s⟩
  have l1 : m_L (m_new S 12 12) (m_n S + 1) = 12 := up_s
  have n1 : m_n (m_new S 12 12) = m_n S + 1 := rfl
  unfold fX5_drawn bX5_drawn_0
  simp only [hle, Option.bind_some, at_st q1 l1 (by decide) (show nI a = nI a from rfl) (show a < 12 by omega), fin_l]
  generalize hS1 : m_new S 12 12 = S1 at *
  obtain ⟨st, ⟨S2, hst, f2, k2⟩, he⟩ := lim_inv (step := sX5_drawn) (K := fun k st => ∃ S', st = (16, nI kd, nI a, nI b, nI s, m_n S + 1, nI (pth lo hi b a s k).1, nI (pth lo hi b a s k).2, nI (a + k), S') ∧ FrC S1 S' [m_n S + 1] [] [] ∧ ∀ j, j ≤ k → m_I S' (m_n S + 1) (a + j) = nI (pth lo hi b a s j).1) (b - a) (s0 := (16, nI kd, nI a, nI b, nI s, m_n S + 1, nI s, nI 5, nI (a + 0), m_sI S1 (m_n S + 1) (upd (m_I S1 (m_n S + 1)) a (nI s)))) ⟨_, rfl, FrC.sI (by omega) (by simp), fun j hj => by
      have : j = 0 := by omega
      subst this
      rw [mI_same]
      exact upd_s⟩ (fun k hk st hst => by
    obtain ⟨S', rfl, f, kk⟩ := hst
    obtain ⟨p1, p2, p3, p4⟩ := hpok k (by omega)
    rw [show b - a - k = (b - a - k - 1) + 1 by omega] at p4
    have C' : CS S' := C1.fr f (by simp) (by simp)
    have hct' : ctb S' lo hi b (a + k + 1) := fun y l hy hl => by
      rw [f.row C1 (a := 19) (by omega) (by omega) (by simp; omega), f1.row hC (a := 19) (by omega) (by omega) (by simp)]
      exact hct _ (by omega) (by omega) y l hy hl
    obtain ⟨c, hc1, hc2⟩ := C_bestChange (x := a + k) C' (show b - a - k - 1 < b by omega) hb (by omega) p1 p3 hct' p4
    obtain ⟨o1, o2, o3⟩ := okc_b hc2.2.1.1
    have q' : m_at S' (m_n S + 1) 12 := q1.fr f
    have l' : m_L S' (m_n S + 1) = 12 := by rw [(f.2.1 _ q1.1 q1.2.1).2.1]; exact l1
    have hps := pth_s hc2
    refine ⟨(16, nI kd, nI a, nI b, nI s, m_n S + 1, nI (pth lo hi b a s (k + 1)).1, nI (pth lo hi b a s (k + 1)).2, nI (a + (k + 1)), m_sI S' (m_n S + 1) (upd (m_I S' (m_n S + 1)) (a + (k + 1)) (nI (pth lo hi b a s (k + 1)).1))), ?_, _, rfl, f.tr (FrC.sI (by omega) (by simp)), fun j hj => ?_⟩
    · show bX5_drawn_22 S' 16 (nI kd) (nI a) (nI b) (nI s) (m_n S + 1) (nI (pth lo hi b a s k).1) (nI (pth lo hi b a s k).2) (nI (a + k)) = _
      unfold bX5_drawn_22
      rw [if_neg (nI_ge (by omega) (by omega)), cIs16 C', Option.bind_some, hc1, Option.bind_some, yc_i o1 (by omega), Option.bind_some, nI_1, at_st q' l' (by decide) rfl (by omega), Option.bind_some, Option.bind_some, hps]
      rfl
    · rw [mI_same]
      by_cases hjk : j = k + 1
      · subst hjk
        rw [upd_s]
      · rw [upd_n (by omega)]
        exact kk j (by omega))
  have f12 : FrC S S2 [] [] [] := FrC.bigI (b := m_n S + 1) ((f1.mono (by simp) (by simp) (by simp)).tr f2) (by omega)
  have C2 : CS S2 := hC.fr f12 (by simp) (by simp)
  have q2 : m_at S2 (m_n S + 1) 12 := q1.fr f2
  have l2 : m_L S2 (m_n S + 1) = 12 := by rw [(f2.2.1 _ q1.1 q1.2.1).2.1]; exact l1
  have f3 : FrC S2 (m_new S2 4 0) [] [] [] := FrC.new (by have := C2.1; omega)
  have C3 : CS (m_new S2 4 0) := C2.fr f3 (by simp) (by simp)
  have o3 : m_at (m_new S2 4 0) (m_n S2 + 1) 4 := ⟨by omega, Nat.le_refl _, up_s⟩
  have hn2 : m_n S + 1 ≤ m_n S2 := q2.2.1
  have ct3 : ∀ y l, y < 12 → l < 6 → m_I (m_new S2 4 0) 19 (6 * (12 * y + a) + l) = nI (ccv lo hi b a y l) := fun y l hy hl => by
    rw [f3.row C2 (a := 19) (by omega) (by omega) (by simp), f12.row hC (a := 19) (by omega) (by omega) (by simp)]
    exact hct a (Nat.le_refl _) (by omega) y l hy hl
  have hsl : fX5_slotOf (nI a) (nI s) 5 = some (nI (6 * (12 * s + a) + 5)) := C_slot (l := 5)
  have hcc : ccv lo hi b a s 5 = gg lo hi b 1000 (b - a) s 5 := by unfold ccv; rw [if_pos hl]
  have q3 : m_at (m_new S2 4 0) (m_n S + 1) 12 := q2.fr f3
  have l3 : m_L (m_new S2 4 0) (m_n S + 1) = 12 := by rw [(f3.2.1 _ q2.1 q2.2.1).2.1]; exact l2
  have i3 : m_I (m_new S2 4 0) (m_n S + 1) = m_I S2 (m_n S + 1) := (f3.2.1 _ q2.1 q2.2.1).2.2.1 (by omega) (by simp)
  generalize hS3 : m_new S2 4 0 = S3 at *
  have key : ∀ (T : MS) (k : Nat) (v : Int32), m_at T (m_n S2 + 1) 4 → o_sI T (m_n S2 + 1) 4 k v = some (m_sI T (m_n S2 + 1) (upd (m_I T (m_n S2 + 1)) k v)) := fun T k v h => at_sI h
  have a1 : ∀ (T : MS) (f : Nat → Int32), m_at T (m_n S2 + 1) 4 → m_at (m_sI T (m_n S2 + 1) f) (m_n S2 + 1) 4 := fun T f h => h
  have init : fX3_init S3 (m_n S2 + 1) (nI kd) (nI a) (nI b) (nI (gg lo hi b 1000 (b - a) s 5)) (m_n S + 1) = some (m_sP (m_sI S3 (m_n S2 + 1) (upd (upd (upd (upd (m_I S3 (m_n S2 + 1)) 0 (nI kd)) 1 (nI a)) 2 (nI b)) 3 (nI (gg lo hi b 1000 (b - a) s 5)))) (m_n S2 + 1) (va_up (m_P S3 (m_n S2 + 1)) 4 (some (m_n S + 1)))) := by
    unfold fX3_init bX3_init_0
    rw [key _ _ _ o3, Option.bind_some, key _ _ _ (a1 _ _ o3), Option.bind_some, key _ _ _ (a1 _ _ (a1 _ _ o3)), Option.bind_some, key _ _ _ (a1 _ _ (a1 _ _ (a1 _ _ o3))), Option.bind_some]
    simp only [mI_same, sI_sI]
    rw [at_sP (a1 _ _ o3), Option.bind_some]
    rfl
  have fin3 : FrC S3 (m_sP (m_sI S3 (m_n S2 + 1) (upd (upd (upd (upd (m_I S3 (m_n S2 + 1)) 0 (nI kd)) 1 (nI a)) 2 (nI b)) 3 (nI (gg lo hi b 1000 (b - a) s 5)))) (m_n S2 + 1) (va_up (m_P S3 (m_n S2 + 1)) 4 (some (m_n S + 1)))) [m_n S2 + 1] [] [m_n S2 + 1] := (FrC.sI (by omega) (by simp)).tr (FrC.sP (by simp))
  have fall : FrC S (m_sP (m_sI S3 (m_n S2 + 1) (upd (upd (upd (upd (m_I S3 (m_n S2 + 1)) 0 (nI kd)) 1 (nI a)) 2 (nI b)) 3 (nI (gg lo hi b 1000 (b - a) s 5)))) (m_n S2 + 1) (va_up (m_P S3 (m_n S2 + 1)) 4 (some (m_n S + 1)))) [] [] [] := by
    refine FrC.big (b := m_n S2 + 1) (FrC.bigI (b := m_n S2 + 1) ?_ (by omega)) (by omega)
    exact ((f12.tr f3).mono (by simp) (by simp) (by simp)).tr fin3
  refine ⟨_, m_n S2 + 1, m_n S + 1, ?_, fall, by omega, by omega, o3.fr fin3, ?_, q3.fr fin3, ?_, ⟨?_, ?_, ?_, ?_⟩, fun k hk => ?_⟩
  · rw [show lim sX5_drawn (16, nI kd, nI a, nI b, nI s, m_n S + 1, nI s, 5, nI a, m_sI S1 (m_n S + 1) (upd (m_I S1 (m_n S + 1)) a (nI s))) = _ from he, hst]
    apply lim_end
    show bX5_drawn_22 S2 16 (nI kd) (nI a) (nI b) (nI s) (m_n S + 1) _ _ (nI (a + (b - a))) = _
    unfold bX5_drawn_22
    rw [if_pos (nI_le (by omega) (by omega)), Option.bind_some, Option.bind_some, hS3, cP16_2 C3, Option.bind_some, hsl, Option.bind_some, cL19 C3 rfl (show 6 * (12 * s + a) + 5 < 864 by omega), Option.bind_some, ct3 s 5 hs (by omega), hcc, init, Option.bind_some]
  · show va_up (m_P S3) (m_n S2 + 1) _ (m_n S2 + 1) 4 = _
    rw [up_s, up_s]
  · rw [(fin3.2.1 _ q3.1 q3.2.1).2.1]; exact l3
  · show m_I (m_sI S3 (m_n S2 + 1) _) (m_n S2 + 1) 0 = _
    rw [mI_same, upd_n (by decide), upd_n (by decide), upd_n (by decide), upd_s]
  · show m_I (m_sI S3 (m_n S2 + 1) _) (m_n S2 + 1) 1 = _
    rw [mI_same, upd_n (by decide), upd_n (by decide), upd_s]
  · show m_I (m_sI S3 (m_n S2 + 1) _) (m_n S2 + 1) 2 = _
    rw [mI_same, upd_n (by decide), upd_s]
  · show m_I (m_sI S3 (m_n S2 + 1) _) (m_n S2 + 1) 3 = _
    rw [mI_same, upd_s]
  · rw [(fin3.2.1 _ q3.1 q3.2.1).2.2.1 (by omega) (by simp; omega), i3]
    exact k2 k hk
end PT
