/-- new int[N][K]: the outer row, then the inner ones -/
def m_grid (S : MS) (N K : Nat) : MS := (S.1 + 1 + N, fun a => if a = S.1 + 1 then 16 else if S.1 < a ∧ a ≤ S.1 + 1 + N then 12 else S.2.1 a, fun a => if a = S.1 + 1 then N else if S.1 < a ∧ a ≤ S.1 + 1 + N then K else S.2.2.1 a,
  fun a => if S.1 < a ∧ a ≤ S.1 + 1 + N then (fun _ => 0) else S.2.2.2.1 a, fun a => if S.1 < a ∧ a ≤ S.1 + 1 + N then (fun _ => 0) else S.2.2.2.2.1 a,
  fun a => if a = S.1 + 1 then (fun j => if j < N then some (S.1 + 2 + j) else none) else if S.1 < a ∧ a ≤ S.1 + 1 + N then (fun _ => none) else S.2.2.2.2.2 a)
theorem m_grid_old {cy : Nat → ClassId} {ad : Nat → Nat} {S : MS} {N K a : Nat} (h : a ≤ S.1) : m_ce cy ad (m_grid S N K) a = m_ce cy ad S a := by
  have h1 : ¬ a = S.1 + 1 := by omega
  have h2 : ¬ (S.1 < a ∧ a ≤ S.1 + 1 + N) := by omega
  simp only [m_ce, m_grid, m_K, m_L, m_I, m_J, m_P, if_neg h1, if_neg h2]
theorem m_grid_out {cy : Nat → ClassId} {ad : Nat → Nat} {S : MS} {N K : Nat} : m_ce cy ad (m_grid S N K) (S.1 + 1) = .inl (cy 16, N, .inr (.inr (.inr (.inr (fun j => (if j < N then some (S.1 + 2 + j) else none : Option Nat).map ad))))) := by
  have e : m_K (m_grid S N K) (S.1 + 1) = 16 := by simp [m_grid, m_K]
  rw [m_ce_ref e (by decide)]
  simp [m_grid, m_L, m_P]
theorem m_grid_in {cy : Nat → ClassId} {ad : Nat → Nat} {S : MS} {N K j : Nat} (h : j < N) : m_ce cy ad (m_grid S N K) (S.1 + 2 + j) = .inl (cy 12, K, .inl (fun _ => 0)) := by
  have h1 : ¬ S.1 + 2 + j = S.1 + 1 := by omega
  have h2 : S.1 < S.1 + 2 + j ∧ S.1 + 2 + j ≤ S.1 + 1 + N := by omega
  have e : m_K (m_grid S N K) (S.1 + 2 + j) = 12 := by simp only [m_grid, m_K, if_neg h1, if_pos h2]
  rw [m_ce_int e (by decide) (by decide)]
  simp only [m_grid, m_L, m_I, if_neg h1, if_pos h2]
theorem ad_run {ad : Nat → Nat} {K0 n : Nat} (hs : ∀ k, K0 ≤ k → ad (k + 1) + 1 = ad (k + 2)) (hn : K0 ≤ n) : ∀ j, ad (n + 1 + j) = ad (n + 1) + j
  | 0 => rfl
  | j + 1 => by
    have h := hs (n + j) (by omega)
    rw [show n + 1 + (j + 1) = n + j + 2 by omega, ← h, show n + j + 1 = n + 1 + j by omega, ad_run hs hn j]
    omega
section KG
variable {p : Program} {l : Launch} {e : Env} {R : Room} {s : State} {m : MethodId} {args : Array Value} {below : List Frame} {meth : Method} {c : Code} {H : Heap} {locs : List Loc} {cells slots : Nat} {Q : State → Prop}
variable {cc : ByteArray} {pc nL : Nat} {ls : Array Slot} {rest : List Value} {D : va_G} {cy : Nat → ClassId} {ad : Nat → Nat} {A : Nat → Prop} {H0 : Heap} {S : MS} {own : String} {K0 : Nat}
theorem ST.grid {N K : Nat} {H1 : Heap} (h : ST D cy ad A H0 (ZA ad K0) S H locs) (hA : ∀ k, 0 < k → A (ad k)) (hs : ∀ k, K0 ≤ k → ad (k + 1) + 1 = ad (k + 2)) (hz : H1.size = H.size + 1 + N) (oq : ∀ q : Nat, q < H.size → H1[q]? = H[q]?)
    (ho : H1[H.size]? = some (vp_cell (cy 16) (N, .inr (.inr (.inr (.inr (fun i => if i < N then some (H.size + 1 + i) else none))))))) (hi : ∀ j, j < N → H1[H.size + 1 + j]? = some (vp_cell (cy 12) (K, .inl (fun _ => 0)))) : ST D cy ad A H0 (ZA ad K0) (m_grid S N K) H1 locs := by
  obtain ⟨⟨hP, hD⟩, hV, hz1, hz2⟩ := h
  have hz1' : H.size = ad (S.1 + 1) := hz1
  have run := ad_run hs hz2
  have run' : ∀ j, ad (S.1 + 1 + j) = H.size + j := fun j => by rw [hz1']; exact run j
  have at' : ∀ (k : Nat) (x : Nat × va_E), (m_ws cy ad (m_grid S N K))[k]? = some x → x = (ad (k + 1), m_ce cy ad (m_grid S N K) (k + 1)) ∧ k < S.1 + 1 + N := fun k x hx => by
    unfold m_ws at hx
    rw [List.getElem?_map] at hx
    by_cases hk : k < m_n (m_grid S N K)
    · rw [List.getElem?_range hk] at hx
      exact ⟨(Option.some.inj hx).symm, hk⟩
    · rw [List.getElem?_eq_none (by simpa using hk)] at hx
      cases hx
  have old : ∀ k, k < S.1 → (m_ws cy ad S)[k]? = some (ad (k + 1), m_ce cy ad S (k + 1)) := fun k hk => m_ws_at (cy := cy) (ad := ad) (S := S) (a := k + 1) (by omega) hk
  have lo : ∀ k, k < S.1 → ad (k + 1) < H.size := fun k hk => (hP k _ (old k hk)).lt
  have hi' : ∀ k, S.1 ≤ k → ad (k + 1) = H.size + (k - S.1) := fun k hk => by
    rw [show k + 1 = S.1 + 1 + (k - S.1) by omega]
    exact run' _
  refine ⟨⟨fun k x hx => ?_, ⟨fun i j x y hx hy hxy => ?_, fun k x hx => ?_⟩⟩, ⟨by rw [hz]; have := hV.1; omega, fun q h1 h2 => (oq q (Nat.lt_of_lt_of_le h1 hV.1)).trans (hV.2.1 q h1 h2), hV.2.2⟩, ?_, ?_⟩
  · obtain ⟨rfl, hk⟩ := at' k x hx
    by_cases h1 : k < S.1
    · rw [m_grid_old (by omega)]
      exact (hP k _ (old k h1)).kept (oq _ (lo k h1))
    · by_cases h2 : k = S.1
      · subst h2
        rw [m_grid_out, ← hz1']
        show H1[H.size]? = some (vp_cell _ _)
        rw [ho]
        congr 4
        show Sum.inr _ = Sum.inr _
        congr 3
        funext i
        by_cases hi2 : i < N
        · rw [if_pos hi2, if_pos hi2]
          show some _ = some (ad _)
          rw [show S.1 + 2 + i = S.1 + 1 + (1 + i) by omega, run' (1 + i)]
          congr 1
          omega
        · rw [if_neg hi2, if_neg hi2]
          rfl
      · rw [hi' k (by omega), show k + 1 = S.1 + 2 + (k - S.1 - 1) by omega, m_grid_in (by omega)]
        show H1[_]? = some (vp_cell _ _)
        rw [show H.size + (k - S.1) = H.size + 1 + (k - S.1 - 1) by omega]
        exact hi _ (by omega)
  · obtain ⟨rfl, hk⟩ := at' i x hx
    obtain ⟨rfl, hk2⟩ := at' j y hy
    by_cases h1 : i < S.1 <;> by_cases h2 : j < S.1
    · exact hD.1 i j _ _ (old i h1) (old j h2) hxy
    · have := lo i h1
      have := hi' j (by omega)
      have hxy' : ad (i + 1) = ad (j + 1) := hxy
      omega
    · have := lo j h2
      have := hi' i (by omega)
      have hxy' : ad (i + 1) = ad (j + 1) := hxy
      omega
    · have := hi' j (by omega)
      have := hi' i (by omega)
      have hxy' : ad (i + 1) = ad (j + 1) := hxy
      omega
  · obtain ⟨rfl, hk⟩ := at' k x hx
    exact hA _ (by omega)
  · show H1.size = ad (S.1 + 1 + N + 1)
    rw [hz, show S.1 + 1 + N + 1 = S.1 + 1 + (N + 1) by omega, run' (N + 1)]
    omega
  · show K0 ≤ S.1 + 1 + N
    have : K0 ≤ S.1 := hz2
    omega
theorem gr_outer (c : ClassId) (N h0 : Nat) : ∀ i : Nat, Jvm.Free.Multi.outerC c N h0 i = arrV c N (fun j => va_rf (if j < i then some (h0 + 1 + j) else none))
  | 0 => by
    show ({ cls := c, slots := Array.replicate N .null, vm := .none } : Cell) = _
    rw [arrV_new]
    refine congrArg (arrV c N) (funext fun j => ?_)
    simp [va_rf]
  | i + 1 => by
    show (Jvm.Free.Multi.outerC c N h0 i).setSlot i (.ref (h0 + 1 + i)) = _
    rw [gr_outer c N h0 i, arrV_store]
    refine congrArg (arrV c N) (funext fun j => ?_)
    by_cases e : j = i
    · subst e
      simp [updV, va_rf]
    · by_cases h : j < i
      · simp [updV, e, h, Nat.lt_succ_of_lt h]
      · simp [updV, e, h, show ¬ j < i + 1 by omega]
theorem k_grid (C0 : CX p s m args meth c own cc nL D cy) (M : ST D cy ad A H0 (ZA ad K0) S H locs) (hA : ∀ k, 0 < k → A (ad k)) (hs : ∀ k, K0 ≤ k → ad (k + 1) + 1 = ad (k + 2)) {index : Nat} (hl : Cond.classLink own index "[[I" ∈ UW) (hover : Cond.arrayOver (.array .int) ∈ UW) (harr : Cond.arrayClass .int ∈ UW) {n k : Int32} {N K : Nat} (hn : ¬ n < 0) (hk : ¬ k < 0) (hN : n.toNatClampNeg = N) (hK : k.toNatClampNeg = K)
    (hb1 : N * 4 ≤ 536870912) (hb2 : K * 4 ≤ 536870912) (hcells : cells + (1 + N) ≤ R.cells) (hslots : slots + (N + N * K) ≤ R.slots) (hdg : decode cc pc = .ok (.multianewarray index 2, 4))
    (kk : ∀ (H1 : Heap), ST D cy ad A H0 (ZA ad K0) (m_grid S N K) H1 locs → W p l e R s m args below meth c H1 locs (cells + 1 + N) (slots + N + N * K) Q (F0 m (pc + 4) ls (.ref (ad (m_n S + 1)) :: rest))) : W p l e R s m args below meth c H locs cells slots Q (F0 m pc ls (.int k :: .int n :: rest)) := by
  obtain ⟨hx, hb, hml, hown, hG, hts, -⟩ := C0
  subst hN
  subst hK
  intro T hT Xs
  have hcl : (Cond.classLink own index ("[" ++ (FieldType.array .int).toString)).before args s = true := hts _ hl
  obtain ⟨vm₁, cA, comp, -, fA, fC, hO, -, X', step⟩ := Xs.multianewarray2F hx hown hcl (hts _ hover) (hts _ harr) (g := F0 m pc ls (.int k :: .int n :: rest)) rfl (by rw [hb]; exact hdg) rfl hn hk hb1 hb2 (by omega) rfl rfl hcells hslots
  have h16 : s.vm.findClass ("[" ++ (FieldType.array .int).toString) = some (cy 16) := (hG.1.2 4 _ rfl).2
  have h12 : s.vm.findClass ("[" ++ FieldType.int.toString) = some (cy 12) := (hG.1.2 0 _ rfl).2
  have e16 : cA = cy 16 := Option.some.inj (fA.symm.trans h16)
  have e12 : comp = cy 12 := Option.some.inj (fC.symm.trans h12)
  subst e16 e12
  generalize hF : Jvm.Free.Multi.fill (T.setVm vm₁) (cy 16) (cy 12) n.toNatClampNeg k.toNatClampNeg (defaultValue .int) n.toNatClampNeg = F at X' step
  have hTh : (T.setVm vm₁).heap = H := hT
  obtain ⟨f1, f2, -, -⟩ := Jvm.Free.Multi.fill_facts (T.setVm vm₁) (cy 16) (cy 12) n.toNatClampNeg k.toNatClampNeg (defaultValue .int) n.toNatClampNeg
  rw [hF, hTh] at f1 f2
  have hold : ∀ x : Nat, x < H.size → F.heap[x]? = H[x]? := fun x hx => by
    have := Jvm.Free.Multi.fill_old (T.setVm vm₁) (cy 16) (cy 12) n.toNatClampNeg k.toNatClampNeg (defaultValue .int) (a := x) (by rw [hTh]; exact hx) n.toNatClampNeg
    rw [hF, hTh] at this
    exact this
  have hrow : ∀ j : Nat, j < n.toNatClampNeg → F.heap[H.size + 1 + j]? = some (vp_cell (cy 12) (k.toNatClampNeg, .inl (fun _ => 0))) := fun j hj => by
    have := Jvm.Free.Multi.fill_inner (T.setVm vm₁) (cy 16) (cy 12) n.toNatClampNeg k.toNatClampNeg (defaultValue .int) n.toNatClampNeg j hj
    rw [hF, hTh] at this
    rw [this, vp_cell_i]
    exact congrArg some (arrV_new _ _ _)
  rw [gr_outer] at f2
  have hzz : H.size = ad (m_n S + 1) := M.2.2.1
  obtain ⟨t, a1, b1⟩ := kk F.heap (M.grid hA hs (by rw [f1]) hold (by rw [f2, vp_cell_q]) hrow) F rfl X'
  refine ⟨t, step t ?_, b1⟩
  have e : T.heap.size = ad (m_n S + 1) := by rw [hT]; exact hzz
  rw [e]
  exact a1
end KG
