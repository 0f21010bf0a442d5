section ZHh
/-- only the grids are touched -/
def zF3 (S U : zS2) : Prop := ∀ k i : Nat, k ≠ 3 → U k i = S k i
theorem zF3_for {S X : zS2} {st : Int → zS2 → zS2} {a : Int} (h : zF3 S X) (hs : ∀ i Y, zF3 S Y → zF3 S (st i Y)) (n : Nat) : zF3 S (zfor st a X n) := zfor_inv (zF3 S) h hs n
end ZHh
