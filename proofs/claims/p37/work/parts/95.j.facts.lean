section ZHj
theorem zw_common24 {M : zCt} {d e : Nat → Int} {p : Int} : (zw_common M d e p).1 24 = zcmP d e p := by
  unfold zw_common
  dsimp only
  rw [zset_self]
end ZHj
