section ZLi
/-- the sign left out -/
theorem zI_and7 (x : Int) : ∃ m : Int, 0 ≤ m ∧ m ≤ 2147483647 ∧ zI x &&& zI 2147483647 = zI m := by
  have h : (zI x &&& zI 2147483647).toBitVec.msb = false := by
    rw [Int32.toBitVec_and, BitVec.msb_and, show (zI 2147483647).toBitVec.msb = false from by decide, Bool.and_false]
  have e : (zI x &&& zI 2147483647).toInt = ((zI x &&& zI 2147483647).toBitVec.toNat : Int) := by
    show (zI x &&& zI 2147483647).toBitVec.toInt = _
    exact BitVec.toInt_eq_toNat_of_msb h
  refine ⟨(zI x &&& zI 2147483647).toInt, ?_, ?_, ?_⟩
  · rw [e]
    exact Int.natCast_nonneg _
  · have := (zI x &&& zI 2147483647).toInt_le
    exact this
  · exact (Int32.ofInt_toInt _).symm
/-- a letter more in a word -/
theorem zI_pk {v c : Int} (hv : 0 ≤ v ∧ v < 8388608) (hc : 0 ≤ c ∧ c < 256) : (zI v <<< (zI 8 &&& 31)) ||| zI c = zI (v * 256 + c) := by
  obtain ⟨a, rfl⟩ : ∃ a : Nat, v = a := ⟨v.toNat, by omega⟩
  obtain ⟨b, rfl⟩ : ∃ b : Nat, c = b := ⟨c.toNat, by omega⟩
  have ha : a < 8388608 := by omega
  have hb : b < 256 := by omega
  rw [show zI 8 &&& 31 = (8 : Int32) from by decide]
  apply Int32.toBitVec_inj.mp
  rw [Int32.toBitVec_or, Int32.toBitVec_shiftLeft]
  have e8 : ((8 : Int32).toBitVec.smod 32) = 8#32 := by decide
  rw [e8]
  apply BitVec.eq_of_toNat_eq
  have tn : ∀ k : Nat, k < 4294967296 → (zI (k : Int)).toBitVec.toNat = k := fun k hk => by
    show (BitVec.ofInt 32 (k : Int)).toNat = k
    rw [BitVec.ofInt_natCast, BitVec.toNat_ofNat, Nat.mod_eq_of_lt hk]
  rw [BitVec.toNat_or, show ((a : Int) * 256 + (b : Int)) = ((a * 256 + b : Nat) : Int) from by omega, tn b (by omega), tn _ (by omega)]
  rw [BitVec.shiftLeft_eq', BitVec.toNat_shiftLeft, tn a (by omega)]
  rw [show (8#32).toNat = 8 from rfl, Nat.shiftLeft_eq, show a * 2 ^ 8 = a * 256 from rfl, Nat.mod_eq_of_lt (show a * 256 < 2 ^ 32 by omega)]
  have := Nat.shiftLeft_add_eq_or_of_lt (a := a) (b := b) (i := 8) hb
  rw [Nat.shiftLeft_eq, show a * 2 ^ 8 = a * 256 from rfl] at this
  exact this.symm
/-- what stands at k, or a space -/
def zl32 (t : Nat → Int) (n : Nat) (k : Nat) : Int := if k < n then t k else 32
/-- letters k .. k + j - 1 in one number -/
def zwd4 (t : Nat → Int) (n k : Nat) : Nat → Int
  | 0 => 0
  | j + 1 => zwd4 t n k j * 256 + zl32 t n (k + j)
theorem zl32_b {t : Nat → Int} {n : Nat} (ht : ∀ k, k < n → zlr7 (t k)) (k : Nat) : 0 ≤ zl32 t n k ∧ zl32 t n k ≤ 127 := by
  unfold zl32
  split
  · rename_i h
    exact ht k h
  · omega
theorem zwd4_b {t : Nat → Int} {n : Nat} (ht : ∀ k, k < n → zlr7 (t k)) (k : Nat) : (∀ j, j < 4 → 0 ≤ zwd4 t n k j ∧ zwd4 t n k j < 8388608) ∧ 0 ≤ zwd4 t n k 4 ∧ zwd4 t n k 4 ≤ 2147483647 := by
  have b := zl32_b ht
  have b0 := b (k + 0)
  have b1 := b (k + 1)
  have b2 := b (k + 2)
  have b3 := b (k + 3)
  have e1 : zwd4 t n k 1 = zl32 t n (k + 0) := by
    show (0 : Int) * 256 + zl32 t n (k + 0) = zl32 t n (k + 0)
    omega
  have e2 : zwd4 t n k 2 = zwd4 t n k 1 * 256 + zl32 t n (k + 1) := rfl
  have e3 : zwd4 t n k 3 = zwd4 t n k 2 * 256 + zl32 t n (k + 2) := rfl
  have e4 : zwd4 t n k 4 = zwd4 t n k 3 * 256 + zl32 t n (k + 3) := rfl
  have e0 : zwd4 t n k 0 = 0 := rfl
  refine ⟨fun j hj => ?_, ?_, ?_⟩
  · rcases (show j = 0 ∨ j = 1 ∨ j = 2 ∨ j = 3 by omega) with e | e | e | e <;> subst e <;> omega
  · omega
  · omega
theorem zwd4_i {t : Nat → Int} {n : Nat} (ht : ∀ k, k < n → zlr7 (t k)) (k : Nat) : zbyt (zwd4 t n k 4) 24 = zl32 t n k ∧ zbyt (zwd4 t n k 4) 16 = zl32 t n (k + 1) ∧ zbyt (zwd4 t n k 4) 8 = zl32 t n (k + 2) ∧ zbyt (zwd4 t n k 4) 0 = zl32 t n (k + 3) := by
  have b := zl32_b ht
  have b0 := b (k + 0)
  have b1 := b (k + 1)
  have b2 := b (k + 2)
  have b3 := b (k + 3)
  have e4 : zwd4 t n k 4 = (((0 * 256 + zl32 t n (k + 0)) * 256 + zl32 t n (k + 1)) * 256 + zl32 t n (k + 2)) * 256 + zl32 t n (k + 3) := rfl
  rw [e4]
  unfold zbyt
  rw [show k + 0 = k from rfl] at b0 ⊢
  refine ⟨?_, ?_, ?_, ?_⟩
  · rw [show (2 : Int) ^ (24 : Int).toNat = 16777216 from by decide]
    omega
  · rw [show (2 : Int) ^ (16 : Int).toNat = 65536 from by decide]
    omega
  · rw [show (2 : Int) ^ (8 : Int).toNat = 256 from by decide]
    omega
  · rw [show (2 : Int) ^ (0 : Int).toNat = 1 from by decide]
    omega
end ZLi
