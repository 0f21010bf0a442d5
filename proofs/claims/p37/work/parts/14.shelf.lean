section ZSq
theorem zShelf.put {cI cP : ClassId} {f : Nat → va_E} {a : Nat} {p n : Int} {C : Nat → Nat → Int} {lt c : Nat → Int} {j : Nat} (h : zShelf cI cP f a p n C lt) (hj : j < 6) : zShelf cI cP (va_up f (a + 3 + 2 * j + 1) (zA cI 25 c)) a p n (zset C j c) lt :=
  ⟨(va_up_ne _ _ (by omega)).trans h.1, (va_up_ne _ _ (by omega)).trans h.2.1, (va_up_ne _ _ (by omega)).trans h.2.2.1, fun k hk => ⟨(va_up_ne _ _ (by omega)).trans (h.2.2.2 k hk).1, by
    by_cases e : k = j
    · rw [e, va_up_self, zset_self]
    · rw [va_up_ne _ _ (by omega), zset_ne _ _ e]
      exact (h.2.2.2 k hk).2⟩⟩
theorem zShelf.lt {cI cP : ClassId} {f : Nat → va_E} {a : Nat} {p n : Int} {C : Nat → Nat → Int} {lt l2 : Nat → Int} (h : zShelf cI cP f a p n C lt) : zShelf cI cP (va_up f (a + 2) (zA cI 36 l2)) a p n C l2 :=
  ⟨(va_up_ne _ _ (by omega)).trans h.1, (va_up_ne _ _ (by omega)).trans h.2.1, va_up_self _ _ _, fun k hk => ⟨(va_up_ne _ _ (by omega)).trans (h.2.2.2 k hk).1, (va_up_ne _ _ (by omega)).trans (h.2.2.2 k hk).2⟩⟩
theorem zShelf.hd {cI cP : ClassId} {f : Nat → va_E} {a : Nat} {p n p2 n2 : Int} {C : Nat → Nat → Int} {lt : Nat → Int} (h : zShelf cI cP f a p n C lt) : zShelf cI cP (va_up f a (.inr (7, [.int (zI p2), .int (zI n2), .ref (a + 1), .ref (a + 2)]))) a p2 n2 C lt :=
  ⟨va_up_self _ _ _, (va_up_ne _ _ (by omega)).trans h.2.1, (va_up_ne _ _ (by omega)).trans h.2.2.1, fun k hk => ⟨(va_up_ne _ _ (by omega)).trans (h.2.2.2 k hk).1, (va_up_ne _ _ (by omega)).trans (h.2.2.2 k hk).2⟩⟩
/-- a NAME of no letters -/
def zclr (n : Int) (lt : Nat → Int) (k : Int) : Nat → Int := zfor (fun i t => zsetL n t i 0) 0 lt (k - 0).toNat
theorem zclr_s (n : Int) (lt : Nat → Int) {k : Int} (h : 0 ≤ k) : zclr n lt (k + 1) = zsetL n (zclr n lt k) k 0 := zfor_s _ _ _ h
/-- what a CURVE that goes leaves -/
def zremC (C : Nat → Nat → Int) (i k : Int) : Nat → Nat → Int := zfor (fun (k : Int) (C : Nat → Nat → Int) => zset C k.toNat (C (k + 1).toNat)) i C (k - i).toNat
theorem zremC_s (C : Nat → Nat → Int) {i k : Int} (h : i ≤ k) : zremC C i (k + 1) = zset (zremC C i k) k.toNat (zremC C i k (k + 1).toNat) := zfor_s _ _ _ h
def zremL (lt : Nat → Int) (i k : Int) : Nat → Int := zfor (fun (k : Int) (t : Nat → Int) => zcpy t t ((k + 1) * 6).toNat (k * 6).toNat (6 : Int).toNat) i lt (k - i).toNat
theorem zremL_s (lt : Nat → Int) {i k : Int} (h : i ≤ k) : zremL lt i (k + 1) = zcpy (zremL lt i k) (zremL lt i k) ((k + 1) * 6).toNat (k * 6).toNat (6 : Int).toNat := zfor_s _ _ _ h
theorem zremC_0 (C : Nat → Nat → Int) (i : Int) : zremC C i i = C := zfor_0 _ _ _
theorem zremL_0 (lt : Nat → Int) (i : Int) : zremL lt i i = lt := zfor_0 _ _ _
end ZSq
