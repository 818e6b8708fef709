/-! A quotient of two whole numbers that aren't large is a number; sums of longs. -/
theorem tm_n64 {u v : UInt64} {p a : Int} (hu : u.toNat = FP.Core.fromInt FP.Core.b64 p) (hv : v.toNat = FP.Core.fromInt FP.Core.b64 a) (hp : p.natAbs ≤ 2 ^ 40) (ha : a.natAbs ≤ 2 ^ 40) (h0 : a ≠ 0) : vf_n64 (FP.ddiv u v) := by
  have h1 := FP.Core.fromInt_mag hu hp (K := 1063) (by decide) (by decide)
  have h2 := FP.Core.fromInt_mag hv ha (K := 1063) (by decide) (by decide)
  have h3 := FP.Core.fromInt_ge hv h0
  have h4 : (FP.ddiv u v).toNat % 2 ^ 63 < (1064 + (1074 - 52 - 1) - 1023 + 3) * 2 ^ 52 := FP.Core.ddiv_mag (a := u) (b := v) (K := 1064) (L := 1023) (by omega) (by omega) (by omega) (by decide) (by decide)
  unfold vf_n64
  rw [UInt64.le_iff_toNat_le, UInt64.toNat_and]
  have e1 : (0x7fffffffffffffff : UInt64).toNat = 2 ^ 63 - 1 := by decide
  have e2 : (0x7ff0000000000000 : UInt64).toNat = 9218868437227405312 := by decide
  rw [e1, e2, Nat.and_two_pow_sub_one_eq_mod]
  omega
def L64 (z : Int) : Int64 := Int64.ofInt z
theorem L64_add (a b : Int) : L64 a + L64 b = L64 (a + b) := (Int64.ofInt_add a b).symm
theorem L64_mul (a b : Int) : L64 a * L64 b = L64 (a * b) := (Int64.ofInt_mul a b).symm
theorem L64_toInt {a : Int} (h : -9223372036854775808 ≤ a ∧ a ≤ 9223372036854775807) : (L64 a).toInt = a := Int64.toInt_ofInt_of_le (by omega) (by omega)
theorem I_L64 {a : Int} (h : -2147483648 ≤ a ∧ a ≤ 2147483647) : (I a).toInt64 = L64 a := by
  show (Int32.ofInt a).toInt64 = Int64.ofInt a
  apply Int64.toInt_inj.mp
  rw [Int32.toInt_toInt64, Int32.toInt_ofInt_of_le (by omega) (by omega), Int64.toInt_ofInt_of_le (by omega) (by omega)]
/-- what used answers: the pieces' area by the boards' -/
def usV (a p : Int) : UInt64 := if a = 0 then 0 else FP.ddiv (FP.l2d (L64 p)) (FP.l2d (L64 a))
theorem usV_i {a p : Int} (hp : -2147483648 ≤ p ∧ p ≤ 2147483647) (ha : -2147483648 ≤ a ∧ a ≤ 2147483647) : usV a p = if a = 0 then 0 else FP.ddiv (FP.i2d (I p)) (FP.i2d (I a)) := by
  have e : ∀ z : Int, -2147483648 ≤ z ∧ z ≤ 2147483647 → FP.l2d (L64 z) = FP.i2d (I z) := by
    intro z hz
    show UInt64.ofNat (FP.Core.fromInt FP.Core.b64 (L64 z).toInt) = UInt64.ofNat (FP.Core.fromInt FP.Core.b64 (I z).toInt)
    rw [L64_toInt (by omega), show (I z).toInt = z from Int32.toInt_ofInt_of_le (by omega) (by omega)]
  unfold usV
  rw [e p hp, e a ha]
section
variable {x : tmX} {cc : ByteArray} {own : String} {ret : Option FieldType} {G : Heap → Prop} {b n pc : Nat} {L L' : List (Nat × Value)} {st : List Value}
theorem tm_l2d {u : Int64} (hC : tm_C x cc own ret) (hd : decode cc pc = .ok (.l2d, 1)) (k : tm_V x G b n (pc + 1) L (.double (FP.l2d u) :: st)) : tm_V x G b n pc L (.long u :: st) :=
  fun H locs ls cells slots h1 h2 hS hG hl => lv_l2d hC.1 hC.2.1 hd (k H locs ls cells slots h1 h2 hS hG hl)
theorem tm_i2d {u : Int32} (hC : tm_C x cc own ret) (hd : decode cc pc = .ok (.i2d, 1)) (k : tm_V x G b n (pc + 1) L (.double (FP.i2d u) :: st)) : tm_V x G b n pc L (.int u :: st) :=
  fun H locs ls cells slots h1 h2 hS hG hl => lv_i2d hC.1 hC.2.1 hd (k H locs ls cells slots h1 h2 hS hG hl)
theorem tm_ddiv {u v : UInt64} (hC : tm_C x cc own ret) (hn : vf_n64 (FP.ddiv u v)) (hd : decode cc pc = .ok (.ddiv, 1)) (k : tm_V x G b n (pc + 1) L (.double (FP.ddiv u v) :: st)) : tm_V x G b n pc L (.double v :: .double u :: st) :=
  fun H locs ls cells slots h1 h2 hS hG hl => lv_ddiv hC.1 hC.2.1 hd hn (k H locs ls cells slots h1 h2 hS hG hl)
end
