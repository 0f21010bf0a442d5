section ZLk
/-- other tape, the rest as it was -/
def zVT (N M : zCt) : Prop := N.2 = M.2 ∧ ∀ a b, ¬ (a = 0 ∧ b = 2) → a ≠ 2 → N.1 a b = M.1 a b
theorem zVT.tr {A B C : zCt} (h1 : zVT A B) (h2 : zVT B C) : zVT A C := ⟨h1.1.trans h2.1, fun a b x y => (h1.2 a b x y).trans (h2.2 a b x y)⟩
theorem zVT.refl {A : zCt} : zVT A A := ⟨rfl, fun _ _ _ _ => rfl⟩
theorem zapp_4b {x k : Int} {T : Nat → Int} (hk : 0 ≤ k ∧ k + 4 ≤ 1000) : zapp x (k, T) = (k + 4, zup (zup (zup (zup T k.toNat (zbyt x 24)) (k + 1).toNat (zbyt x 16)) (k + 2).toNat (zbyt x 8)) (k + 3).toNat (zbyt x 0)) := by
  unfold zapp
  simp only [zapF]
  rw [if_pos (show k < 1000 by omega)]
  dsimp only
  rw [if_pos (show k + 1 < 1000 by omega)]
  dsimp only
  rw [if_pos (show k + 1 + 1 < 1000 by omega)]
  dsimp only
  rw [if_pos (show k + 1 + 1 + 1 < 1000 by omega)]
  rw [show k + 1 + 1 + 1 + 1 = k + 4 by omega, show k + 1 + 1 + 1 = k + 3 by omega, show k + 1 + 1 = k + 2 by omega]
  rfl
theorem zw_append_ok {N : zCt} {k : Int} {t : Nat → Int} {n : Nat} (ht : ∀ k, k < n → zlr7 (t k)) (hk : 0 ≤ k ∧ k + 4 ≤ 1000) (h2 : N.1 0 2 = k) (hT : ∀ i : Nat, (i : Int) < k → N.1 2 i = zl32 t n i) : zVT (zw_append N (zwd4 t n k.toNat 4)) N ∧ (zw_append N (zwd4 t n k.toNat 4)).1 0 2 = k + 4 ∧ ∀ i : Nat, (i : Int) < k + 4 → (zw_append N (zwd4 t n k.toNat 4)).1 2 i = zl32 t n i := by
  obtain ⟨b0, b1, b2, b3⟩ := zwd4_i ht k.toNat
  have e := zapp_4b (x := zwd4 t n k.toNat 4) (T := N.1 2) hk
  unfold zw_append
  rw [h2, e]
  dsimp only
  refine ⟨⟨rfl, fun a b x y => ?_⟩, ?_, fun i hi => ?_⟩
  · dsimp only
    rw [zset_ne _ _ y, za_ne (by omega)]
  · rw [zset_ne _ _ (by decide), za_same]
  · rw [zset_self]
    unfold zup
    rw [b0, b1, b2, b3]
    by_cases c3 : i = (k + 3).toNat
    · rw [if_pos c3, show k.toNat + 3 = i by omega]
    · rw [if_neg c3]
      by_cases c2 : i = (k + 2).toNat
      · rw [if_pos c2, show k.toNat + 2 = i by omega]
      · rw [if_neg c2]
        by_cases c1 : i = (k + 1).toNat
        · rw [if_pos c1, show k.toNat + 1 = i by omega]
        · rw [if_neg c1]
          by_cases c0 : i = k.toNat
          · rw [if_pos c0, show k.toNat = i by omega]
          · rw [if_neg c0]
            exact hT i (by omega)
theorem zc_feed_ok {N : zCt} {k : Int} {t : Nat → Int} {n : Nat} (ht : ∀ k, k < n → zlr7 (t k)) (hk : 0 ≤ k ∧ k ≤ 980) (h2 : N.1 0 2 = k) (hT : ∀ i : Nat, (i : Int) < k → N.1 2 i = zl32 t n i) :
    (zc_feed N (zwd4 t n k.toNat 4) (zwd4 t n (k + 4).toNat 4) (zwd4 t n (k + 8).toNat 4) (zwd4 t n (k + 12).toNat 4) (zwd4 t n (k + 16).toNat 4)).1 = k + 20 ∧ zVT (zc_feed N (zwd4 t n k.toNat 4) (zwd4 t n (k + 4).toNat 4) (zwd4 t n (k + 8).toNat 4) (zwd4 t n (k + 12).toNat 4) (zwd4 t n (k + 16).toNat 4)).2 N ∧ (zc_feed N (zwd4 t n k.toNat 4) (zwd4 t n (k + 4).toNat 4) (zwd4 t n (k + 8).toNat 4) (zwd4 t n (k + 12).toNat 4) (zwd4 t n (k + 16).toNat 4)).2.1 0 2 = k + 20 ∧
    ∀ i : Nat, (i : Int) < k + 20 → (zc_feed N (zwd4 t n k.toNat 4) (zwd4 t n (k + 4).toNat 4) (zwd4 t n (k + 8).toNat 4) (zwd4 t n (k + 12).toNat 4) (zwd4 t n (k + 16).toNat 4)).2.1 2 i = zl32 t n i := by
  have key : ∀ A1 A2 A3 A4 A5 : zCt, A1 = zw_append N (zwd4 t n k.toNat 4) → A2 = zw_append A1 (zwd4 t n (k + 4).toNat 4) → A3 = zw_append A2 (zwd4 t n (k + 8).toNat 4) → A4 = zw_append A3 (zwd4 t n (k + 12).toNat 4) → A5 = zw_append A4 (zwd4 t n (k + 16).toNat 4) → zVT A5 N ∧ A5.1 0 2 = k + 20 ∧ ∀ i : Nat, (i : Int) < k + 20 → A5.1 2 i = zl32 t n i := by
    intro A1 A2 A3 A4 A5 e1 e2 e3 e4 e5
    obtain ⟨v1, n1, t1⟩ := zw_append_ok ht (k := k) (by omega) h2 hT
    rw [← e1] at v1 n1 t1
    obtain ⟨v2, n2, t2⟩ := zw_append_ok ht (k := k + 4) (by omega) n1 t1
    rw [← e2] at v2 n2 t2
    rw [show k + 4 + 4 = k + 8 by omega] at n2 t2
    obtain ⟨v3, n3, t3⟩ := zw_append_ok ht (k := k + 8) (by omega) n2 t2
    rw [← e3] at v3 n3 t3
    rw [show k + 8 + 4 = k + 12 by omega] at n3 t3
    obtain ⟨v4, n4, t4⟩ := zw_append_ok ht (k := k + 12) (by omega) n3 t3
    rw [← e4] at v4 n4 t4
    rw [show k + 12 + 4 = k + 16 by omega] at n4 t4
    obtain ⟨v5, n5, t5⟩ := zw_append_ok ht (k := k + 16) (by omega) n4 t4
    rw [← e5] at v5 n5 t5
    rw [show k + 16 + 4 = k + 20 by omega] at n5 t5
    exact ⟨v5.tr (v4.tr (v3.tr (v2.tr v1))), n5, t5⟩
  obtain ⟨a, b, c⟩ := key _ _ _ _ _ rfl rfl rfl rfl rfl
  unfold zc_feed
  rw [zlet_v, h2, if_pos (show k ≤ 980 by omega), if_neg (by decide)]
  simp only [zlet_v]
  exact ⟨b, a, b, c⟩
/-- the whole text lies on the tape -/
theorem zc_end_ok {N : zCt} {n : Nat} {k : Int} (h2 : N.1 0 2 = k) (hk : (n : Int) ≤ k) : (zc_end N n).1 = 1 ∧ zVT (zc_end N n).2 N ∧ (zc_end N n).2.1 0 2 = n ∧ ∀ i, (zc_end N n).2.1 2 i = N.1 2 i := by
  unfold zc_end
  rw [if_neg (by omega), if_pos (by omega), zlet_v]
  refine ⟨rfl, ⟨rfl, fun a b x y => ?_⟩, ?_, fun i => ?_⟩
  · show za N.1 0 2 n a b = _
    exact za_ne x
  · show za N.1 0 2 n 0 2 = _
    exact za_same
  · show za N.1 0 2 n 2 i = _
    exact za_ne (by omega)
end ZLk
