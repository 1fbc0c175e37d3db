/-! matching, the reference -/
section RM9
variable {I I' : Nat → Nat → Int32} {J : Nat → Nat → Int64} {cC cR : Nat → Nat → Int} {o n : Nat}
theorem nz_n {a : Nat} (h0 : 0 < a) (h : a < 2 ^ 31) : o_nz (nI a) = some (nI a) := by
  unfold o_nz
  rw [if_neg (fun q => by have := (nI_eq (a := a) (b := 0) h (by omega)).mp q; omega)]
theorem bpow (hn : n ≤ 5) {k : Nat} (hk : k ≤ 5) : 0 < (n + 1) ^ k ∧ (n + 1) ^ k ≤ 7776 := by
  refine ⟨Nat.pow_pos (by omega), ?_⟩
  have h1 : (n + 1) ^ k ≤ 6 ^ k := Nat.pow_le_pow_left (by omega) k
  have h2 : 6 ^ k ≤ 6 ^ 5 := Nat.pow_le_pow_right (by decide) hk
  have h3 : (6 : Nat) ^ 5 = 7776 := by decide
  omega
theorem bdig (hn : n ≤ 5) {k r : Nat} (hr : r < (n + 1) ^ (k + 1)) : r / (n + 1) ^ k ≤ n ∧ r % (n + 1) ^ k < (n + 1) ^ k := by
  have hB : 0 < (n + 1) ^ k := Nat.pow_pos (by omega)
  refine ⟨?_, Nat.mod_lt _ hB⟩
  have : r / (n + 1) ^ k < n + 1 := by
    rw [Nat.div_lt_iff_lt_mul hB]
    rw [Nat.pow_succ, Nat.mul_comm] at hr
    exact hr
  omega
theorem bdiv {k : Nat} : (n + 1) ^ (k + 1) / (n + 1) = (n + 1) ^ k := by
  rw [Nat.pow_succ]
  exact Nat.mul_div_cancel _ (by omega)
theorem fa_d (k t : Nat) : FA cC o n (k + 1) t / (n + 1) ^ k = fp cC o n k t ∧ FA cC o n (k + 1) t % (n + 1) ^ k = FA cC o n k (nx cC o n k t) := by
  have h := FA_lt (cC := cC) (o := o) (n := n) k (nx cC o n k t)
  have e : FA cC o n (k + 1) t = FA cC o n k (nx cC o n k t) + (n + 1) ^ k * fp cC o n k t := by
    show fp cC o n k t * (n + 1) ^ k + FA cC o n k (nx cC o n k t) = _
    rw [Nat.mul_comm, Nat.add_comm]
  rw [e, Nat.add_mul_div_left _ _ (Nat.lt_of_le_of_lt (Nat.zero_le _) h), Nat.div_eq_of_lt h, Nat.zero_add, Nat.add_mul_mod_self_left, Nat.mod_eq_of_lt h]
  exact ⟨rfl, rfl⟩
theorem R_keepL (ho : o ≤ 5) (hn : n ≤ 5) (k : Nat) : ∀ {I : Nat → Nat → Int32} {r : Nat}, k ≤ o → r < (n + 1) ^ k → I 21 0 = nI o → I 21 1 = nI n → ∃ I', lim sX10_keepRow (1, nI ((n + 1) ^ k), nI r, nI (o - k), mkR I J) = some (mkR I' J) ∧ FrR I I' [30] [] ∧ (∀ f, f < o - k → I' 30 f = I 30 f) ∧ (r = FA cC o n k (tk cC o n (o - k)) → ∀ f, o - k ≤ f → f < o → I' 30 f = pn n (fp cC o n (o - f - 1) (tk cC o n f))) := by
  induction k with
  | zero =>
    intro I r _ hr h0 h1
    refine ⟨I, ?_, FrR.rf, fun _ _ => rfl, fun _ f h1 h2 => by omega⟩
    apply lim_end
    show bX10_keepRow_8 (mkR I J) 1 (nI ((n + 1) ^ 0)) (nI r) (nI (o - 0)) = _
    unfold bX10_keepRow_8
    rw [rP28, Option.bind_some, rL21 (show (0 : Int32) = nI 0 from rfl) (by omega), h0, Option.bind_some, if_pos (nI_le (by omega) (by omega))]
  | succ k ih =>
    intro I r hk hr h0 h1
    obtain ⟨bp1, bp2⟩ := bpow hn (k := k + 1) (by omega)
    obtain ⟨cp1, cp2⟩ := bpow hn (k := k) (by omega)
    obtain ⟨hd, hm⟩ := bdig hn hr
    have e1 : nI n + (1 : Int32) = nI (n + 1) := nI_1 n
    have e2 : nI ((n + 1) ^ (k + 1)) / nI (n + 1) = nI ((n + 1) ^ k) := by rw [nI_div (by omega) (by omega) (by omega), bdiv]
    have e3 : nI r / nI ((n + 1) ^ k) = nI (r / (n + 1) ^ k) := nI_div (by omega) (by omega) (by omega)
    have e4 : nI r - nI (r / (n + 1) ^ k) * nI ((n + 1) ^ k) = nI (r % (n + 1) ^ k) := by rw [← e3]; exact nI_rem (by omega) (by omega) (by omega)
    obtain ⟨v, hv⟩ : ∃ v, v = r / (n + 1) ^ k := ⟨_, rfl⟩
    rw [← hv] at e3 e4 hd
    obtain ⟨I1, hI1⟩ : ∃ I1, I1 = va_up I 30 (upd (I 30) (o - (k + 1)) (pn n v)) := ⟨_, rfl⟩
    have f1 : FrR I I1 [30] [] := by rw [hI1]; exact FrR.up (by decide) (by simp)
    have i21 : I1 21 = I 21 := f1.1 21 (by decide) (by simp)
    have i30 : I1 30 = upd (I 30) (o - (k + 1)) (pn n v) := by rw [hI1, up_s]
    obtain ⟨I', u1, u2, u3, u4⟩ := ih (I := I1) (r := r % (n + 1) ^ k) (by omega) hm (by rw [i21]; exact h0) (by rw [i21]; exact h1)
    refine ⟨I', ?_, f1.tr u2, fun f hf => ?_, fun hr' f hf1 hf2 => ?_⟩
    · rw [← u1, lim_eq]
      show fin sX10_keepRow (bX10_keepRow_8 (mkR I J) 1 (nI ((n + 1) ^ (k + 1))) (nI r) (nI (o - (k + 1)))) = _
      have e5 : nI (o - (k + 1)) + 1 = nI (o - k) := by rw [nI_1, show o - (k + 1) + 1 = o - k by omega]
      unfold bX10_keepRow_8 bX10_keepRow_58
      rw [rP28, Option.bind_some, rL21 (show (0 : Int32) = nI 0 from rfl) (by omega), h0, Option.bind_some, if_neg (nI_ge (by omega) (by omega))]
      simp only [Option.bind_some]
      rw [rL21 (show (1 : Int32) = nI 1 from rfl) (by omega), h1, Option.bind_some, e1, nz_n (by omega) (by omega), Option.bind_some, e2, rP37, Option.bind_some, nz_n (by omega) (by omega), Option.bind_some, Option.bind_some, e3, e4, e5]
      by_cases hvn : n ≤ v
      · have hp : pn n v = -9 := if_neg (by omega)
        rw [if_pos (nI_le hvn (by omega)), rS30 rfl (by omega), Option.bind_some, Option.bind_some, ← hp, ← hI1, fin_l]
      · have hp : pn n v = nI v := if_pos (by omega)
        rw [if_neg (nI_ge (by omega) (by omega)), rS30 rfl (by omega), Option.bind_some, Option.bind_some, ← hp, ← hI1, Option.bind_some, fin_l]
    · rw [u3 f (by omega), i30, upd_n (by omega)]
    · obtain ⟨a1, a2⟩ := fa_d (cC := cC) (o := o) (n := n) k (tk cC o n (o - (k + 1)))
      rw [← hr'] at a1 a2
      have htk : tk cC o n (o - k) = nx cC o n k (tk cC o n (o - (k + 1))) := by
        have : tk cC o n (o - (k + 1) + 1) = nx cC o n (o - (o - (k + 1)) - 1) (tk cC o n (o - (k + 1))) := rfl
        rw [show o - (k + 1) + 1 = o - k by omega, show o - (o - (k + 1)) - 1 = k by omega] at this
        exact this
      by_cases q : f = o - (k + 1)
      · rw [u3 f (by omega), i30, q, upd_s, hv, a1, show o - (o - (k + 1)) - 1 = k by omega]
      · exact u4 (by rw [htk]; exact a2) f (by omega) hf2
end RM9
