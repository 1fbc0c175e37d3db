/-! the reference: its memory is two functions; numbers -/
def kR : Nat → Nat
  | 1 => 11
  | 2 => 12
  | 3 => 12
  | 4 => 12
  | 5 => 12
  | 6 => 12
  | 7 => 12
  | 8 => 12
  | 9 => 12
  | 10 => 12
  | 11 => 12
  | 12 => 12
  | 13 => 12
  | 14 => 12
  | 15 => 12
  | 16 => 12
  | 17 => 12
  | 18 => 12
  | 19 => 12
  | 20 => 13
  | 21 => 12
  | 22 => 12
  | 23 => 12
  | 24 => 12
  | 25 => 12
  | 26 => 12
  | 27 => 12
  | 28 => 12
  | 29 => 12
  | 30 => 12
  | 31 => 13
  | 32 => 12
  | 33 => 12
  | 34 => 12
  | 35 => 13
  | 36 => 12
  | 37 => 12
  | 38 => 13
  | 39 => 12
  | 40 => 12
  | 41 => 12
  | 42 => 12
  | 43 => 12
  | _ => 0
def lR : Nat → Nat
  | 2 => 12
  | 3 => 12
  | 4 => 12
  | 5 => 12
  | 6 => 12
  | 7 => 12
  | 8 => 30
  | 9 => 30
  | 10 => 30
  | 11 => 450
  | 12 => 30
  | 13 => 30
  | 14 => 12
  | 15 => 12
  | 16 => 12
  | 17 => 144
  | 18 => 12
  | 19 => 144
  | 20 => 144
  | 21 => 2
  | 22 => 10
  | 23 => 10
  | 24 => 10
  | 25 => 10
  | 26 => 120
  | 27 => 12
  | 28 => 12
  | 29 => 720
  | 30 => 5
  | 31 => 4
  | 32 => 576
  | 33 => 8
  | 34 => 40
  | 35 => 40
  | 36 => 40
  | 37 => 6
  | 38 => 6
  | 39 => 6
  | 40 => 4
  | 41 => 4
  | 42 => 240
  | 43 => 60
  | _ => 0
def pR1 : Nat → Option Nat
  | 2 => some 2
  | 3 => some 3
  | 4 => some 4
  | 5 => some 5
  | 6 => some 6
  | 7 => some 7
  | 9 => some 8
  | 10 => some 9
  | 11 => some 10
  | 12 => some 11
  | 13 => some 12
  | 14 => some 13
  | 20 => some 14
  | 21 => some 15
  | 22 => some 16
  | 24 => some 17
  | 25 => some 18
  | 26 => some 19
  | 27 => some 20
  | 28 => some 21
  | 29 => some 22
  | 30 => some 23
  | 31 => some 24
  | 32 => some 25
  | 33 => some 26
  | 34 => some 27
  | 35 => some 28
  | 36 => some 29
  | 37 => some 30
  | 39 => some 31
  | 40 => some 32
  | 45 => some 33
  | 46 => some 34
  | 47 => some 35
  | 48 => some 36
  | 50 => some 37
  | 51 => some 38
  | 52 => some 39
  | 53 => some 40
  | 54 => some 41
  | 55 => some 42
  | 56 => some 43
  | _ => none
def pR (a : Nat) : Nat → Option Nat := if a = 1 then pR1 else fun _ => none
def mkR (I : Nat → Nat → Int32) (J : Nat → Nat → Int64) : MS := (43, kR, lR, I, J, pR)
theorem r_ld {I : Nat → Nat → Int32} {J : Nat → Nat → Int64} {a n k j : Nat} {i : Int32} (h0 : 0 < a) (h1 : a ≤ 43) (hk : kR a = k) (hl : lR a = n) (hn : n < 2 ^ 31) (hi : i = nI j) (h : j < n) : o_ld (mkR I J) a k i = some (I a j) := by
  subst hi
  have hc : (nI j).toNatClampNeg = j := nI_clamp (by omega)
  unfold o_ld
  rw [hc, if_pos ⟨⟨h0, h1, hk⟩, fun q => q.elim (nI_pos (by omega)) (fun q => by have : lR a ≤ j := q; omega)⟩]
  rfl
theorem r_st {I : Nat → Nat → Int32} {J : Nat → Nat → Int64} {a n k j : Nat} {i v : Int32} (h0 : 0 < a) (h1 : a ≤ 43) (hk : kR a = k) (hl : lR a = n) (hn : n < 2 ^ 31) (hi : i = nI j) (h : j < n) : o_st (mkR I J) a k i v = some (mkR (va_up I a (upd (I a) j v)) J) := by
  subst hi
  have hc : (nI j).toNatClampNeg = j := nI_clamp (by omega)
  unfold o_st
  rw [hc, if_pos ⟨⟨h0, h1, hk⟩, fun q => q.elim (nI_pos (by omega)) (fun q => by have : lR a ≤ j := q; omega)⟩]
  rfl

section RR
variable {I : Nat → Nat → Int32} {J : Nat → Nat → Int64}
theorem rI (k : Nat) : o_gI (mkR I J) 1 11 k = some (I 1 k) := rfl
theorem rJ (k : Nat) : o_gJ (mkR I J) 1 11 k = some (J 1 k) := rfl
theorem rSI (k : Nat) (v : Int32) : o_sI (mkR I J) 1 11 k v = some (mkR (va_up I 1 (upd (I 1) k v)) J) := rfl
theorem rSJ (k : Nat) (v : Int64) : o_sJ (mkR I J) 1 11 k v = some (mkR I (va_up J 1 (va_up (J 1) k v))) := rfl
theorem rIs : o_is (mkR I J) 1 11 = some 1 := rfl
theorem rP2 : o_gP (mkR I J) 1 11 2 = some 2 := rfl
theorem rP3 : o_gP (mkR I J) 1 11 3 = some 3 := rfl
theorem rP4 : o_gP (mkR I J) 1 11 4 = some 4 := rfl
theorem rP5 : o_gP (mkR I J) 1 11 5 = some 5 := rfl
theorem rP6 : o_gP (mkR I J) 1 11 6 = some 6 := rfl
theorem rP7 : o_gP (mkR I J) 1 11 7 = some 7 := rfl
theorem rP9 : o_gP (mkR I J) 1 11 9 = some 8 := rfl
theorem rP10 : o_gP (mkR I J) 1 11 10 = some 9 := rfl
theorem rP11 : o_gP (mkR I J) 1 11 11 = some 10 := rfl
theorem rP12 : o_gP (mkR I J) 1 11 12 = some 11 := rfl
theorem rP13 : o_gP (mkR I J) 1 11 13 = some 12 := rfl
theorem rP14 : o_gP (mkR I J) 1 11 14 = some 13 := rfl
theorem rP20 : o_gP (mkR I J) 1 11 20 = some 14 := rfl
theorem rP21 : o_gP (mkR I J) 1 11 21 = some 15 := rfl
theorem rP22 : o_gP (mkR I J) 1 11 22 = some 16 := rfl
theorem rP24 : o_gP (mkR I J) 1 11 24 = some 17 := rfl
theorem rP25 : o_gP (mkR I J) 1 11 25 = some 18 := rfl
theorem rP26 : o_gP (mkR I J) 1 11 26 = some 19 := rfl
theorem rP27 : o_gP (mkR I J) 1 11 27 = some 20 := rfl
theorem rP28 : o_gP (mkR I J) 1 11 28 = some 21 := rfl
theorem rP29 : o_gP (mkR I J) 1 11 29 = some 22 := rfl
theorem rP30 : o_gP (mkR I J) 1 11 30 = some 23 := rfl
theorem rP31 : o_gP (mkR I J) 1 11 31 = some 24 := rfl
theorem rP32 : o_gP (mkR I J) 1 11 32 = some 25 := rfl
theorem rP33 : o_gP (mkR I J) 1 11 33 = some 26 := rfl
theorem rP34 : o_gP (mkR I J) 1 11 34 = some 27 := rfl
theorem rP35 : o_gP (mkR I J) 1 11 35 = some 28 := rfl
theorem rP36 : o_gP (mkR I J) 1 11 36 = some 29 := rfl
theorem rP37 : o_gP (mkR I J) 1 11 37 = some 30 := rfl
theorem rP39 : o_gP (mkR I J) 1 11 39 = some 31 := rfl
theorem rP40 : o_gP (mkR I J) 1 11 40 = some 32 := rfl
theorem rP45 : o_gP (mkR I J) 1 11 45 = some 33 := rfl
theorem rP46 : o_gP (mkR I J) 1 11 46 = some 34 := rfl
theorem rP47 : o_gP (mkR I J) 1 11 47 = some 35 := rfl
theorem rP48 : o_gP (mkR I J) 1 11 48 = some 36 := rfl
theorem rP50 : o_gP (mkR I J) 1 11 50 = some 37 := rfl
theorem rP51 : o_gP (mkR I J) 1 11 51 = some 38 := rfl
theorem rP52 : o_gP (mkR I J) 1 11 52 = some 39 := rfl
theorem rP53 : o_gP (mkR I J) 1 11 53 = some 40 := rfl
theorem rP54 : o_gP (mkR I J) 1 11 54 = some 41 := rfl
theorem rP55 : o_gP (mkR I J) 1 11 55 = some 42 := rfl
theorem rP56 : o_gP (mkR I J) 1 11 56 = some 43 := rfl
theorem rL2 {i : Int32} {j : Nat} (hi : i = nI j) (h : j < 12) : o_ld (mkR I J) 2 12 i = some (I 2 j) := r_ld (a := 2) (n := 12) (by decide) (by decide) rfl rfl (by decide) hi h
theorem rS2 {i v : Int32} {j : Nat} (hi : i = nI j) (h : j < 12) : o_st (mkR I J) 2 12 i v = some (mkR (va_up I 2 (upd (I 2) j v)) J) := r_st (a := 2) (n := 12) (by decide) (by decide) rfl rfl (by decide) hi h
theorem rL3 {i : Int32} {j : Nat} (hi : i = nI j) (h : j < 12) : o_ld (mkR I J) 3 12 i = some (I 3 j) := r_ld (a := 3) (n := 12) (by decide) (by decide) rfl rfl (by decide) hi h
theorem rS3 {i v : Int32} {j : Nat} (hi : i = nI j) (h : j < 12) : o_st (mkR I J) 3 12 i v = some (mkR (va_up I 3 (upd (I 3) j v)) J) := r_st (a := 3) (n := 12) (by decide) (by decide) rfl rfl (by decide) hi h
theorem rL4 {i : Int32} {j : Nat} (hi : i = nI j) (h : j < 12) : o_ld (mkR I J) 4 12 i = some (I 4 j) := r_ld (a := 4) (n := 12) (by decide) (by decide) rfl rfl (by decide) hi h
theorem rS4 {i v : Int32} {j : Nat} (hi : i = nI j) (h : j < 12) : o_st (mkR I J) 4 12 i v = some (mkR (va_up I 4 (upd (I 4) j v)) J) := r_st (a := 4) (n := 12) (by decide) (by decide) rfl rfl (by decide) hi h
theorem rL5 {i : Int32} {j : Nat} (hi : i = nI j) (h : j < 12) : o_ld (mkR I J) 5 12 i = some (I 5 j) := r_ld (a := 5) (n := 12) (by decide) (by decide) rfl rfl (by decide) hi h
theorem rS5 {i v : Int32} {j : Nat} (hi : i = nI j) (h : j < 12) : o_st (mkR I J) 5 12 i v = some (mkR (va_up I 5 (upd (I 5) j v)) J) := r_st (a := 5) (n := 12) (by decide) (by decide) rfl rfl (by decide) hi h
theorem rL6 {i : Int32} {j : Nat} (hi : i = nI j) (h : j < 12) : o_ld (mkR I J) 6 12 i = some (I 6 j) := r_ld (a := 6) (n := 12) (by decide) (by decide) rfl rfl (by decide) hi h
theorem rS6 {i v : Int32} {j : Nat} (hi : i = nI j) (h : j < 12) : o_st (mkR I J) 6 12 i v = some (mkR (va_up I 6 (upd (I 6) j v)) J) := r_st (a := 6) (n := 12) (by decide) (by decide) rfl rfl (by decide) hi h
theorem rL7 {i : Int32} {j : Nat} (hi : i = nI j) (h : j < 12) : o_ld (mkR I J) 7 12 i = some (I 7 j) := r_ld (a := 7) (n := 12) (by decide) (by decide) rfl rfl (by decide) hi h
theorem rS7 {i v : Int32} {j : Nat} (hi : i = nI j) (h : j < 12) : o_st (mkR I J) 7 12 i v = some (mkR (va_up I 7 (upd (I 7) j v)) J) := r_st (a := 7) (n := 12) (by decide) (by decide) rfl rfl (by decide) hi h
theorem rL8 {i : Int32} {j : Nat} (hi : i = nI j) (h : j < 30) : o_ld (mkR I J) 8 12 i = some (I 8 j) := r_ld (a := 8) (n := 30) (by decide) (by decide) rfl rfl (by decide) hi h
theorem rS8 {i v : Int32} {j : Nat} (hi : i = nI j) (h : j < 30) : o_st (mkR I J) 8 12 i v = some (mkR (va_up I 8 (upd (I 8) j v)) J) := r_st (a := 8) (n := 30) (by decide) (by decide) rfl rfl (by decide) hi h
theorem rL9 {i : Int32} {j : Nat} (hi : i = nI j) (h : j < 30) : o_ld (mkR I J) 9 12 i = some (I 9 j) := r_ld (a := 9) (n := 30) (by decide) (by decide) rfl rfl (by decide) hi h
theorem rS9 {i v : Int32} {j : Nat} (hi : i = nI j) (h : j < 30) : o_st (mkR I J) 9 12 i v = some (mkR (va_up I 9 (upd (I 9) j v)) J) := r_st (a := 9) (n := 30) (by decide) (by decide) rfl rfl (by decide) hi h
theorem rL10 {i : Int32} {j : Nat} (hi : i = nI j) (h : j < 30) : o_ld (mkR I J) 10 12 i = some (I 10 j) := r_ld (a := 10) (n := 30) (by decide) (by decide) rfl rfl (by decide) hi h
theorem rS10 {i v : Int32} {j : Nat} (hi : i = nI j) (h : j < 30) : o_st (mkR I J) 10 12 i v = some (mkR (va_up I 10 (upd (I 10) j v)) J) := r_st (a := 10) (n := 30) (by decide) (by decide) rfl rfl (by decide) hi h
theorem rL11 {i : Int32} {j : Nat} (hi : i = nI j) (h : j < 450) : o_ld (mkR I J) 11 12 i = some (I 11 j) := r_ld (a := 11) (n := 450) (by decide) (by decide) rfl rfl (by decide) hi h
theorem rS11 {i v : Int32} {j : Nat} (hi : i = nI j) (h : j < 450) : o_st (mkR I J) 11 12 i v = some (mkR (va_up I 11 (upd (I 11) j v)) J) := r_st (a := 11) (n := 450) (by decide) (by decide) rfl rfl (by decide) hi h
theorem rL12 {i : Int32} {j : Nat} (hi : i = nI j) (h : j < 30) : o_ld (mkR I J) 12 12 i = some (I 12 j) := r_ld (a := 12) (n := 30) (by decide) (by decide) rfl rfl (by decide) hi h
theorem rS12 {i v : Int32} {j : Nat} (hi : i = nI j) (h : j < 30) : o_st (mkR I J) 12 12 i v = some (mkR (va_up I 12 (upd (I 12) j v)) J) := r_st (a := 12) (n := 30) (by decide) (by decide) rfl rfl (by decide) hi h
theorem rL13 {i : Int32} {j : Nat} (hi : i = nI j) (h : j < 30) : o_ld (mkR I J) 13 12 i = some (I 13 j) := r_ld (a := 13) (n := 30) (by decide) (by decide) rfl rfl (by decide) hi h
theorem rS13 {i v : Int32} {j : Nat} (hi : i = nI j) (h : j < 30) : o_st (mkR I J) 13 12 i v = some (mkR (va_up I 13 (upd (I 13) j v)) J) := r_st (a := 13) (n := 30) (by decide) (by decide) rfl rfl (by decide) hi h
theorem rL14 {i : Int32} {j : Nat} (hi : i = nI j) (h : j < 12) : o_ld (mkR I J) 14 12 i = some (I 14 j) := r_ld (a := 14) (n := 12) (by decide) (by decide) rfl rfl (by decide) hi h
theorem rS14 {i v : Int32} {j : Nat} (hi : i = nI j) (h : j < 12) : o_st (mkR I J) 14 12 i v = some (mkR (va_up I 14 (upd (I 14) j v)) J) := r_st (a := 14) (n := 12) (by decide) (by decide) rfl rfl (by decide) hi h
theorem rL15 {i : Int32} {j : Nat} (hi : i = nI j) (h : j < 12) : o_ld (mkR I J) 15 12 i = some (I 15 j) := r_ld (a := 15) (n := 12) (by decide) (by decide) rfl rfl (by decide) hi h
theorem rS15 {i v : Int32} {j : Nat} (hi : i = nI j) (h : j < 12) : o_st (mkR I J) 15 12 i v = some (mkR (va_up I 15 (upd (I 15) j v)) J) := r_st (a := 15) (n := 12) (by decide) (by decide) rfl rfl (by decide) hi h
theorem rL16 {i : Int32} {j : Nat} (hi : i = nI j) (h : j < 12) : o_ld (mkR I J) 16 12 i = some (I 16 j) := r_ld (a := 16) (n := 12) (by decide) (by decide) rfl rfl (by decide) hi h
theorem rS16 {i v : Int32} {j : Nat} (hi : i = nI j) (h : j < 12) : o_st (mkR I J) 16 12 i v = some (mkR (va_up I 16 (upd (I 16) j v)) J) := r_st (a := 16) (n := 12) (by decide) (by decide) rfl rfl (by decide) hi h
theorem rL17 {i : Int32} {j : Nat} (hi : i = nI j) (h : j < 144) : o_ld (mkR I J) 17 12 i = some (I 17 j) := r_ld (a := 17) (n := 144) (by decide) (by decide) rfl rfl (by decide) hi h
theorem rS17 {i v : Int32} {j : Nat} (hi : i = nI j) (h : j < 144) : o_st (mkR I J) 17 12 i v = some (mkR (va_up I 17 (upd (I 17) j v)) J) := r_st (a := 17) (n := 144) (by decide) (by decide) rfl rfl (by decide) hi h
theorem rL18 {i : Int32} {j : Nat} (hi : i = nI j) (h : j < 12) : o_ld (mkR I J) 18 12 i = some (I 18 j) := r_ld (a := 18) (n := 12) (by decide) (by decide) rfl rfl (by decide) hi h
theorem rS18 {i v : Int32} {j : Nat} (hi : i = nI j) (h : j < 12) : o_st (mkR I J) 18 12 i v = some (mkR (va_up I 18 (upd (I 18) j v)) J) := r_st (a := 18) (n := 12) (by decide) (by decide) rfl rfl (by decide) hi h
theorem rL19 {i : Int32} {j : Nat} (hi : i = nI j) (h : j < 144) : o_ld (mkR I J) 19 12 i = some (I 19 j) := r_ld (a := 19) (n := 144) (by decide) (by decide) rfl rfl (by decide) hi h
theorem rS19 {i v : Int32} {j : Nat} (hi : i = nI j) (h : j < 144) : o_st (mkR I J) 19 12 i v = some (mkR (va_up I 19 (upd (I 19) j v)) J) := r_st (a := 19) (n := 144) (by decide) (by decide) rfl rfl (by decide) hi h
theorem rL20 {i : Int32} {j : Nat} (hi : i = nI j) (h : j < 144) : o_ld (mkR I J) 20 13 i = some (I 20 j) := r_ld (a := 20) (n := 144) (by decide) (by decide) rfl rfl (by decide) hi h
theorem rS20 {i v : Int32} {j : Nat} (hi : i = nI j) (h : j < 144) : o_st (mkR I J) 20 13 i v = some (mkR (va_up I 20 (upd (I 20) j v)) J) := r_st (a := 20) (n := 144) (by decide) (by decide) rfl rfl (by decide) hi h
theorem rL21 {i : Int32} {j : Nat} (hi : i = nI j) (h : j < 2) : o_ld (mkR I J) 21 12 i = some (I 21 j) := r_ld (a := 21) (n := 2) (by decide) (by decide) rfl rfl (by decide) hi h
theorem rS21 {i v : Int32} {j : Nat} (hi : i = nI j) (h : j < 2) : o_st (mkR I J) 21 12 i v = some (mkR (va_up I 21 (upd (I 21) j v)) J) := r_st (a := 21) (n := 2) (by decide) (by decide) rfl rfl (by decide) hi h
theorem rL22 {i : Int32} {j : Nat} (hi : i = nI j) (h : j < 10) : o_ld (mkR I J) 22 12 i = some (I 22 j) := r_ld (a := 22) (n := 10) (by decide) (by decide) rfl rfl (by decide) hi h
theorem rS22 {i v : Int32} {j : Nat} (hi : i = nI j) (h : j < 10) : o_st (mkR I J) 22 12 i v = some (mkR (va_up I 22 (upd (I 22) j v)) J) := r_st (a := 22) (n := 10) (by decide) (by decide) rfl rfl (by decide) hi h
theorem rL23 {i : Int32} {j : Nat} (hi : i = nI j) (h : j < 10) : o_ld (mkR I J) 23 12 i = some (I 23 j) := r_ld (a := 23) (n := 10) (by decide) (by decide) rfl rfl (by decide) hi h
theorem rS23 {i v : Int32} {j : Nat} (hi : i = nI j) (h : j < 10) : o_st (mkR I J) 23 12 i v = some (mkR (va_up I 23 (upd (I 23) j v)) J) := r_st (a := 23) (n := 10) (by decide) (by decide) rfl rfl (by decide) hi h
theorem rL24 {i : Int32} {j : Nat} (hi : i = nI j) (h : j < 10) : o_ld (mkR I J) 24 12 i = some (I 24 j) := r_ld (a := 24) (n := 10) (by decide) (by decide) rfl rfl (by decide) hi h
theorem rS24 {i v : Int32} {j : Nat} (hi : i = nI j) (h : j < 10) : o_st (mkR I J) 24 12 i v = some (mkR (va_up I 24 (upd (I 24) j v)) J) := r_st (a := 24) (n := 10) (by decide) (by decide) rfl rfl (by decide) hi h
theorem rL25 {i : Int32} {j : Nat} (hi : i = nI j) (h : j < 10) : o_ld (mkR I J) 25 12 i = some (I 25 j) := r_ld (a := 25) (n := 10) (by decide) (by decide) rfl rfl (by decide) hi h
theorem rS25 {i v : Int32} {j : Nat} (hi : i = nI j) (h : j < 10) : o_st (mkR I J) 25 12 i v = some (mkR (va_up I 25 (upd (I 25) j v)) J) := r_st (a := 25) (n := 10) (by decide) (by decide) rfl rfl (by decide) hi h
theorem rL26 {i : Int32} {j : Nat} (hi : i = nI j) (h : j < 120) : o_ld (mkR I J) 26 12 i = some (I 26 j) := r_ld (a := 26) (n := 120) (by decide) (by decide) rfl rfl (by decide) hi h
theorem rS26 {i v : Int32} {j : Nat} (hi : i = nI j) (h : j < 120) : o_st (mkR I J) 26 12 i v = some (mkR (va_up I 26 (upd (I 26) j v)) J) := r_st (a := 26) (n := 120) (by decide) (by decide) rfl rfl (by decide) hi h
theorem rL27 {i : Int32} {j : Nat} (hi : i = nI j) (h : j < 12) : o_ld (mkR I J) 27 12 i = some (I 27 j) := r_ld (a := 27) (n := 12) (by decide) (by decide) rfl rfl (by decide) hi h
theorem rS27 {i v : Int32} {j : Nat} (hi : i = nI j) (h : j < 12) : o_st (mkR I J) 27 12 i v = some (mkR (va_up I 27 (upd (I 27) j v)) J) := r_st (a := 27) (n := 12) (by decide) (by decide) rfl rfl (by decide) hi h
theorem rL28 {i : Int32} {j : Nat} (hi : i = nI j) (h : j < 12) : o_ld (mkR I J) 28 12 i = some (I 28 j) := r_ld (a := 28) (n := 12) (by decide) (by decide) rfl rfl (by decide) hi h
theorem rS28 {i v : Int32} {j : Nat} (hi : i = nI j) (h : j < 12) : o_st (mkR I J) 28 12 i v = some (mkR (va_up I 28 (upd (I 28) j v)) J) := r_st (a := 28) (n := 12) (by decide) (by decide) rfl rfl (by decide) hi h
theorem rL29 {i : Int32} {j : Nat} (hi : i = nI j) (h : j < 720) : o_ld (mkR I J) 29 12 i = some (I 29 j) := r_ld (a := 29) (n := 720) (by decide) (by decide) rfl rfl (by decide) hi h
theorem rS29 {i v : Int32} {j : Nat} (hi : i = nI j) (h : j < 720) : o_st (mkR I J) 29 12 i v = some (mkR (va_up I 29 (upd (I 29) j v)) J) := r_st (a := 29) (n := 720) (by decide) (by decide) rfl rfl (by decide) hi h
theorem rL30 {i : Int32} {j : Nat} (hi : i = nI j) (h : j < 5) : o_ld (mkR I J) 30 12 i = some (I 30 j) := r_ld (a := 30) (n := 5) (by decide) (by decide) rfl rfl (by decide) hi h
theorem rS30 {i v : Int32} {j : Nat} (hi : i = nI j) (h : j < 5) : o_st (mkR I J) 30 12 i v = some (mkR (va_up I 30 (upd (I 30) j v)) J) := r_st (a := 30) (n := 5) (by decide) (by decide) rfl rfl (by decide) hi h
theorem rL31 {i : Int32} {j : Nat} (hi : i = nI j) (h : j < 4) : o_ld (mkR I J) 31 13 i = some (I 31 j) := r_ld (a := 31) (n := 4) (by decide) (by decide) rfl rfl (by decide) hi h
theorem rS31 {i v : Int32} {j : Nat} (hi : i = nI j) (h : j < 4) : o_st (mkR I J) 31 13 i v = some (mkR (va_up I 31 (upd (I 31) j v)) J) := r_st (a := 31) (n := 4) (by decide) (by decide) rfl rfl (by decide) hi h
theorem rL32 {i : Int32} {j : Nat} (hi : i = nI j) (h : j < 576) : o_ld (mkR I J) 32 12 i = some (I 32 j) := r_ld (a := 32) (n := 576) (by decide) (by decide) rfl rfl (by decide) hi h
theorem rS32 {i v : Int32} {j : Nat} (hi : i = nI j) (h : j < 576) : o_st (mkR I J) 32 12 i v = some (mkR (va_up I 32 (upd (I 32) j v)) J) := r_st (a := 32) (n := 576) (by decide) (by decide) rfl rfl (by decide) hi h
theorem rL33 {i : Int32} {j : Nat} (hi : i = nI j) (h : j < 8) : o_ld (mkR I J) 33 12 i = some (I 33 j) := r_ld (a := 33) (n := 8) (by decide) (by decide) rfl rfl (by decide) hi h
theorem rS33 {i v : Int32} {j : Nat} (hi : i = nI j) (h : j < 8) : o_st (mkR I J) 33 12 i v = some (mkR (va_up I 33 (upd (I 33) j v)) J) := r_st (a := 33) (n := 8) (by decide) (by decide) rfl rfl (by decide) hi h
theorem rL34 {i : Int32} {j : Nat} (hi : i = nI j) (h : j < 40) : o_ld (mkR I J) 34 12 i = some (I 34 j) := r_ld (a := 34) (n := 40) (by decide) (by decide) rfl rfl (by decide) hi h
theorem rS34 {i v : Int32} {j : Nat} (hi : i = nI j) (h : j < 40) : o_st (mkR I J) 34 12 i v = some (mkR (va_up I 34 (upd (I 34) j v)) J) := r_st (a := 34) (n := 40) (by decide) (by decide) rfl rfl (by decide) hi h
theorem rL35 {i : Int32} {j : Nat} (hi : i = nI j) (h : j < 40) : o_ld (mkR I J) 35 13 i = some (I 35 j) := r_ld (a := 35) (n := 40) (by decide) (by decide) rfl rfl (by decide) hi h
theorem rS35 {i v : Int32} {j : Nat} (hi : i = nI j) (h : j < 40) : o_st (mkR I J) 35 13 i v = some (mkR (va_up I 35 (upd (I 35) j v)) J) := r_st (a := 35) (n := 40) (by decide) (by decide) rfl rfl (by decide) hi h
theorem rL36 {i : Int32} {j : Nat} (hi : i = nI j) (h : j < 40) : o_ld (mkR I J) 36 12 i = some (I 36 j) := r_ld (a := 36) (n := 40) (by decide) (by decide) rfl rfl (by decide) hi h
theorem rS36 {i v : Int32} {j : Nat} (hi : i = nI j) (h : j < 40) : o_st (mkR I J) 36 12 i v = some (mkR (va_up I 36 (upd (I 36) j v)) J) := r_st (a := 36) (n := 40) (by decide) (by decide) rfl rfl (by decide) hi h
theorem rL37 {i : Int32} {j : Nat} (hi : i = nI j) (h : j < 6) : o_ld (mkR I J) 37 12 i = some (I 37 j) := r_ld (a := 37) (n := 6) (by decide) (by decide) rfl rfl (by decide) hi h
theorem rS37 {i v : Int32} {j : Nat} (hi : i = nI j) (h : j < 6) : o_st (mkR I J) 37 12 i v = some (mkR (va_up I 37 (upd (I 37) j v)) J) := r_st (a := 37) (n := 6) (by decide) (by decide) rfl rfl (by decide) hi h
theorem rL38 {i : Int32} {j : Nat} (hi : i = nI j) (h : j < 6) : o_ld (mkR I J) 38 13 i = some (I 38 j) := r_ld (a := 38) (n := 6) (by decide) (by decide) rfl rfl (by decide) hi h
theorem rS38 {i v : Int32} {j : Nat} (hi : i = nI j) (h : j < 6) : o_st (mkR I J) 38 13 i v = some (mkR (va_up I 38 (upd (I 38) j v)) J) := r_st (a := 38) (n := 6) (by decide) (by decide) rfl rfl (by decide) hi h
theorem rL39 {i : Int32} {j : Nat} (hi : i = nI j) (h : j < 6) : o_ld (mkR I J) 39 12 i = some (I 39 j) := r_ld (a := 39) (n := 6) (by decide) (by decide) rfl rfl (by decide) hi h
theorem rS39 {i v : Int32} {j : Nat} (hi : i = nI j) (h : j < 6) : o_st (mkR I J) 39 12 i v = some (mkR (va_up I 39 (upd (I 39) j v)) J) := r_st (a := 39) (n := 6) (by decide) (by decide) rfl rfl (by decide) hi h
theorem rL40 {i : Int32} {j : Nat} (hi : i = nI j) (h : j < 4) : o_ld (mkR I J) 40 12 i = some (I 40 j) := r_ld (a := 40) (n := 4) (by decide) (by decide) rfl rfl (by decide) hi h
theorem rS40 {i v : Int32} {j : Nat} (hi : i = nI j) (h : j < 4) : o_st (mkR I J) 40 12 i v = some (mkR (va_up I 40 (upd (I 40) j v)) J) := r_st (a := 40) (n := 4) (by decide) (by decide) rfl rfl (by decide) hi h
theorem rL41 {i : Int32} {j : Nat} (hi : i = nI j) (h : j < 4) : o_ld (mkR I J) 41 12 i = some (I 41 j) := r_ld (a := 41) (n := 4) (by decide) (by decide) rfl rfl (by decide) hi h
theorem rS41 {i v : Int32} {j : Nat} (hi : i = nI j) (h : j < 4) : o_st (mkR I J) 41 12 i v = some (mkR (va_up I 41 (upd (I 41) j v)) J) := r_st (a := 41) (n := 4) (by decide) (by decide) rfl rfl (by decide) hi h
theorem rL42 {i : Int32} {j : Nat} (hi : i = nI j) (h : j < 240) : o_ld (mkR I J) 42 12 i = some (I 42 j) := r_ld (a := 42) (n := 240) (by decide) (by decide) rfl rfl (by decide) hi h
theorem rS42 {i v : Int32} {j : Nat} (hi : i = nI j) (h : j < 240) : o_st (mkR I J) 42 12 i v = some (mkR (va_up I 42 (upd (I 42) j v)) J) := r_st (a := 42) (n := 240) (by decide) (by decide) rfl rfl (by decide) hi h
theorem rL43 {i : Int32} {j : Nat} (hi : i = nI j) (h : j < 60) : o_ld (mkR I J) 43 12 i = some (I 43 j) := r_ld (a := 43) (n := 60) (by decide) (by decide) rfl rfl (by decide) hi h
theorem rS43 {i v : Int32} {j : Nat} (hi : i = nI j) (h : j < 60) : o_st (mkR I J) 43 12 i v = some (mkR (va_up I 43 (upd (I 43) j v)) J) := r_st (a := 43) (n := 60) (by decide) (by decide) rfl rfl (by decide) hi h
end RR
/-! Int32 by Int -/
theorem i_lt {x y : Int32} : x < y ↔ x.toInt < y.toInt := Int32.lt_iff_toInt_lt
theorem i_le {x y : Int32} : x ≤ y ↔ x.toInt ≤ y.toInt := Int32.le_iff_toInt_le
theorem i_eq {x y : Int32} : x = y ↔ x.toInt = y.toInt := Int32.toInt_inj.symm
theorem l_lt {x y : Int64} : x < y ↔ x.toInt < y.toInt := Int64.lt_iff_toInt_lt
theorem l_le {x y : Int64} : x ≤ y ↔ x.toInt ≤ y.toInt := Int64.le_iff_toInt_le
theorem l_eq {x y : Int64} : x = y ↔ x.toInt = y.toInt := Int64.toInt_inj.symm
theorem i_lo (x : Int32) : -2147483648 ≤ x.toInt := by have := Int32.le_toInt x; simpa using this
theorem i_hi (x : Int32) : x.toInt < 2147483648 := by have := Int32.toInt_lt x; simpa using this
theorem i_bm {z : Int} (h1 : -2147483648 ≤ z) (h2 : z < 2147483648) : z.bmod (2 ^ 32) = z := by
  rw [Int.bmod_def]
  omega
theorem l_bm {z : Int} (h1 : -9223372036854775808 ≤ z) (h2 : z < 9223372036854775808) : z.bmod (2 ^ 64) = z := by
  rw [Int.bmod_def]
  omega
theorem i_add {x y : Int32} (h1 : -2147483648 ≤ x.toInt + y.toInt) (h2 : x.toInt + y.toInt < 2147483648) : (x + y).toInt = x.toInt + y.toInt := by rw [Int32.toInt_add, i_bm h1 h2]
theorem i_sub {x y : Int32} (h1 : -2147483648 ≤ x.toInt - y.toInt) (h2 : x.toInt - y.toInt < 2147483648) : (x - y).toInt = x.toInt - y.toInt := by rw [Int32.toInt_sub, i_bm h1 h2]
theorem i_mul {x y : Int32} (h1 : -2147483648 ≤ x.toInt * y.toInt) (h2 : x.toInt * y.toInt < 2147483648) : (x * y).toInt = x.toInt * y.toInt := by rw [Int32.toInt_mul, i_bm h1 h2]
theorem i_neg {x : Int32} (h : -2147483648 < x.toInt) : (-x).toInt = -x.toInt := by
  have := i_hi x
  rw [Int32.toInt_neg, i_bm (by omega) (by omega)]
theorem i_tdiv {x : Int} {n : Int} (hn : 0 < n) : x.tdiv n = if 0 ≤ x then x / n else -((-x) / n) := by
  by_cases h : 0 ≤ x
  · rw [if_pos h, Int.tdiv_eq_ediv_of_nonneg h]
  · rw [if_neg h, ← Int.tdiv_eq_ediv_of_nonneg (by omega : 0 ≤ -x), Int.neg_tdiv, Int.neg_neg]
theorem i_div {x y : Int32} {n : Int} (hy : y.toInt = n) (hn : 0 < n) : (x / y).toInt = if 0 ≤ x.toInt then x.toInt / n else -((-x.toInt) / n) := by
  have h1 := i_lo x
  have h2 := i_hi x
  have e : (x / y).toInt = (x.toInt.tdiv n).bmod (2 ^ 32) := by rw [Int32.toInt_div, hy]
  rw [e, i_tdiv hn]
  by_cases h : 0 ≤ x.toInt
  · rw [if_pos h]
    have a1 : 0 ≤ x.toInt / n := Int.ediv_nonneg h (by omega)
    have a2 : x.toInt / n ≤ x.toInt := Int.ediv_le_self n h
    exact i_bm (by omega) (by omega)
  · rw [if_neg h]
    have a1 : 0 ≤ (-x.toInt) / n := Int.ediv_nonneg (by omega) (by omega)
    have a2 : (-x.toInt) / n ≤ -x.toInt := Int.ediv_le_self n (by omega)
    by_cases h3 : (-x.toInt) / n = 2147483648
    · rw [h3]; rfl
    · exact i_bm (by omega) (by omega)
theorem i_l (x : Int32) : x.toInt64.toInt = x.toInt := Int32.toInt_toInt64 x
theorem lg_lt {x y : Int64} : lg_cmp x y < 0 ↔ x.toInt < y.toInt := by
  rw [← l_lt]
  unfold lg_cmp
  by_cases h : y < x
  · have h3 : ¬ x < y := by rw [l_lt] at h ⊢; omega
    simp [h, h3]
  · by_cases h2 : x = y
    · subst h2
      simp
    · have h3 : x < y := by rw [l_lt] at h ⊢; rw [l_eq] at h2; omega
      simp [h, h2, h3]
theorem lg_gt {x y : Int64} : 0 < lg_cmp x y ↔ y.toInt < x.toInt := by
  rw [← l_lt]
  unfold lg_cmp
  by_cases h : y < x
  · simp [h]
  · by_cases h2 : x = y
    · subst h2
      simp
    · simp [h, h2]

