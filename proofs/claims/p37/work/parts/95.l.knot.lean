section ZHl
theorem zfor_front {σ : Type} {st : Int → σ → σ} {a : Int} {s : σ} : ∀ k : Nat, zfor st a s (k + 1) = zfor st (a + 1) (st a s) k
  | 0 => by
    show st (a + ((0 : Nat) : Int)) s = st a s
    rw [show a + ((0 : Nat) : Int) = a by omega]
  | k + 1 => by
    show st (a + ((k + 1 : Nat) : Int)) (zfor st a s (k + 1)) = st (a + 1 + (k : Int)) (zfor st (a + 1) (st a s) k)
    rw [zfor_front k, show a + ((k + 1 : Nat) : Int) = a + 1 + (k : Int) by omega]
/-- VALUE of a CURVE at the POINT -/
def zkv (M : zCt) (pt k : Int) : Int := zval (M.2.1 k.toNat) (zpx pt (M.1 0 3)) (zpy pt (M.1 0 3)) (zpz pt (M.1 0 3)) (M.1 0 3)
end ZHl
