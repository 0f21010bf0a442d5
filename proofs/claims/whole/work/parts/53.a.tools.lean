section ZCh
theorem zfind_p {a : Nat} {n i : Int} (h : 0 ≤ i ∧ i < n ∧ i < 6) : va_rf (zfind a n i) = .ref (a + 3 + 2 * i.toNat) := by unfold zfind; rw [if_pos h]; rfl
theorem zfind_n {a : Nat} {n i : Int} (h : ¬ (0 ≤ i ∧ i < n ∧ i < 6)) : va_rf (zfind a n i) = .null := by unfold zfind; rw [if_neg h]; rfl
theorem zCP.part {cI cP cS cZ cM : ClassId} {o : Nat} {M : zCt} {g : Nat → va_E} (h : zCP cI cP cS cZ cM o M g) : g (o + 615 + 1) = .inr (2, [.ref (o + 615 + 2)]) ∧ g (o + 615 + 2) = zA cI 25 (M.1 24) := by
  obtain ⟨_, _, _, q⟩ := h.c8
  exact ⟨q.2.1, q.2.2.1⟩
theorem zCP.shob {cI cP cS cZ cM : ClassId} {o : Nat} {M : zCt} {g : Nat → va_E} (h : zCP cI cP cS cZ cM o M g) : g (o + 615) = .inr (6, [.ref (o + 615 + 1), .ref (o + 615 + 3), .ref (o + 615 + 5), .ref (o + 615 + 7), .ref (o + 1)]) := by
  obtain ⟨_, _, _, q⟩ := h.c8
  exact q.1
theorem zCP.made {cI cP cS cZ cM : ClassId} {o : Nat} {M : zCt} {g : Nat → va_E} (h : zCP cI cP cS cZ cM o M g) : g (o + 634 + 1) = .inr (2, [.ref (o + 634 + 2)]) ∧ g (o + 634 + 2) = zA cI 25 (M.1 27) := by
  obtain ⟨_, _, _, _, _, _, _, _, _, _, q⟩ := h.c11
  exact q.2.1
theorem zCP.mkob {cI cP cS cZ cM : ClassId} {o : Nat} {M : zCt} {g : Nat → va_E} (h : zCP cI cP cS cZ cM o M g) : g (o + 634) = .inr (0, [.ref (o + 634 + 1), .ref (o + 634 + 3), .ref (o + 634 + 4), .ref (o + 634 + 5), .ref (o + 634 + 6), .ref (o + 634 + 8), .ref (o + 634 + 10), .ref (o + 634 + 12), .ref (o + 634 + 13), .int (zI (M.1 0 17))]) := by
  obtain ⟨_, _, _, _, _, _, _, _, _, _, q⟩ := h.c11
  exact q.1
theorem zgo_rng {M : zCt} {n p : Int} (hp : 2 ≤ p ∧ p ≤ 31) (h : ¬ bI (zpt n p) = 0) : ((zw_go M n p).1 0 10 = zpx n p ∧ (zw_go M n p).1 0 11 = zpy n p ∧ (zw_go M n p).1 0 12 = zpz n p) ∧ (0 ≤ (zw_go M n p).1 0 10 ∧ (zw_go M n p).1 0 10 < p) ∧ (0 ≤ (zw_go M n p).1 0 11 ∧ (zw_go M n p).1 0 11 < p) ∧ 0 ≤ (zw_go M n p).1 0 12 ∧ (zw_go M n p).1 0 12 ≤ 1 := by
  have hq := bI_1 h
  have e1 : (zw_go M n p).1 0 10 = zpx n p := zgo_t hq
  have e2 : (zw_go M n p).1 0 11 = zpy n p := zgo_t hq
  have e3 : (zw_go M n p).1 0 12 = zpz n p := zgo_t hq
  have h1 := zpx_rng hp hq
  have h2 := zpy_rng hp hq
  have h3 := zpz_01 n p
  exact ⟨⟨e1, e2, e3⟩, by rw [e1]; exact h1, by rw [e2]; exact h2, by rw [e3]; omega, by rw [e3]; omega⟩
theorem zv_go {M : zCt} {n p : Int} : zVE (zw_go M n p) M := zVE.of (fun k i h1 h2 => by rw [za_ne (by omega), za_ne (by omega), za_ne (by omega)])
theorem zv_look1 {M : zCt} {d : Nat → Int} {p : Int} : zVE (zw_look1 M d p) M := zVE.of (fun k i h1 h2 => by rw [zset_ne _ _ (by omega), za_ne (by omega)])
theorem zv_look2 {M : zCt} {d : Nat → Int} {p : Int} : zVE (zw_look2 M d p) M := zVE.of (fun k i h1 h2 => by rw [zset_ne _ _ (by omega), za_ne (by omega)])
theorem zv_often {M : zCt} {d : Nat → Int} : zVE (zw_often M d) M := zVE.of (fun k i h1 h2 => by rw [zset_ne _ _ (by omega)])
theorem zv_common {M : zCt} {d e : Nat → Int} {p : Int} : zVE (zw_common M d e p) M := zVE.of (fun k i h1 h2 => by rw [zset_ne _ _ (by omega)])
theorem zv_run {M : zCt} {d e : Nat → Int} {p : Int} : zVE (zw_run M d e p) M := zVE.of (fun k i h1 h2 => by rw [zset_ne _ _ (by omega), zset_ne _ _ (by omega), za_ne (by omega), za_ne (by omega)])
theorem zv_setMove {M : zCt} {a b e c d k q : Int} : zVE (zw_setMove M a b e c d k q) M := zVE.of (fun k i h1 h2 => by rw [zset_ne _ _ (by omega), zset_ne _ _ (by omega), za_ne (by omega)])
theorem zv_made {M : zCt} {md : Nat → Int} {q : Int} : zVE (zw_made M md q) M := zVE.of (fun k i h1 h2 => by rw [zset_ne _ _ (by omega), za_ne (by omega)])
theorem zv_mset {M : zCt} {md : Nat → Int} : zVE (zw_mset M md) M := zVE.of (fun k i h1 h2 => by rw [zset_ne _ _ (by omega)])
theorem zi_go {M : zCt} {n p : Int} (h : zCI M) : zCI (zw_go M n p) := h
theorem zi_look1 {M : zCt} {d : Nat → Int} {p : Int} (h : zCI M) (hp : 2 ≤ p ∧ p ≤ 31) : zCI (zw_look1 M d p) := ⟨h.p, h.cn, h.cv, h.tp, h.rd, h.ct, h.nx, ⟨hp, (show zcan p (zlook d p (M.1 0 10) (M.1 0 11) (M.1 0 12)) from zlook_can (by omega)), h.vw.2.2⟩, h.v2, h.pt, h.st, h.md, h.ps⟩
theorem zi_look2 {M : zCt} {d : Nat → Int} {p : Int} (h : zCI M) (hp : 2 ≤ p ∧ p ≤ 31) : zCI (zw_look2 M d p) := ⟨h.p, h.cn, h.cv, h.tp, h.rd, h.ct, h.nx, h.vw, zcan_le (zlook_can (by omega)) hp.2, h.pt, h.st, h.md, h.ps⟩
theorem zi_often {M : zCt} {lw : Nat → Int} (h : zCI M) (hl : zcan 31 lw) : zCI (zw_often M lw) := ⟨h.p, h.cn, h.cv, h.tp, h.rd, h.ct, h.nx, ⟨h.vw.1, h.vw.2.1, hl⟩, h.v2, h.pt, h.st, h.md, h.ps⟩
theorem zi_common {M : zCt} {d e : Nat → Int} {p : Int} (h : zCI M) (hp : 2 ≤ p ∧ p ≤ 31) : zCI (zw_common M d e p) := ⟨h.p, h.cn, h.cv, h.tp, h.rd, h.ct, h.nx, h.vw, h.v2, zcan_le (zcom_can (by omega)) hp.2, h.st, h.md, h.ps⟩
theorem zrun_st (p : Int) : ∀ (n : Nat) (st : Int) (F G o ki : Nat → Int) (sm : Int), st ≤ (zrun p n st F G o ki sm).2.1 ∧ (zrun p n st F G o ki sm).2.1 ≤ st + n + 1
  | 0, st, F, G, o, ki, sm => by simp only [zrun]; omega
  | n + 1, st, F, G, o, ki, sm => by
    have h := fun F G o ki sm => zrun_st p n (st + 1) F G o ki sm
    simp only [zrun]
    split
    · have := h (zspl F) G (zup o 1 (o 1 + 1)) (zup ki st.toNat 1) (sm + max (zlst G) 0); omega
    · split
      · have := h G F (zup o 2 (o 2 + 1)) (zup ki st.toNat 2) sm; omega
      · split
        · have := h F (zcut F G p) (zup o 3 (o 3 + 1)) (zup ki st.toNat 3) sm; omega
        · show st ≤ st + 1 ∧ st + 1 ≤ _
          omega
theorem zrunA_st (p : Int) (a b ki : Nat → Int) : 0 ≤ (zrunA p a b ki).2.1 ∧ (zrunA p a b ki).2.1 ≤ 2049 := by
  have h := zrun_st p (2048 - 0 : Int).toNat 0 (zld a) (zld b) (fun _ => 0) ki 0
  unfold zrunA
  omega
theorem zrun_sm (p : Int) : ∀ (n : Nat) (st : Int) (F G o ki : Nat → Int) (sm : Int), sm ≤ (zrun p n st F G o ki sm).1 ∧ (zrun p n st F G o ki sm).1 ≤ sm + 16 * n
  | 0, st, F, G, o, ki, sm => by simp only [zrun]; omega
  | n + 1, st, F, G, o, ki, sm => by
    have h := fun F G o ki sm => zrun_sm p n (st + 1) F G o ki sm
    simp only [zrun]
    split
    · have := h (zspl F) G (zup o 1 (o 1 + 1)) (zup ki st.toNat 1) (sm + max (zlst G) 0)
      have := zlst_rng G
      omega
    · split
      · have := h G F (zup o 2 (o 2 + 1)) (zup ki st.toNat 2) sm; omega
      · split
        · have := h F (zcut F G p) (zup o 3 (o 3 + 1)) (zup ki st.toNat 3) sm; omega
        · show sm ≤ sm ∧ sm ≤ _
          omega
theorem zrunA_sm (p : Int) (a b ki : Nat → Int) : 0 ≤ (zrunA p a b ki).1 ∧ (zrunA p a b ki).1 ≤ 32768 := by
  have h := zrun_sm p (2048 - 0 : Int).toNat 0 (zld a) (zld b) (fun _ => 0) ki 0
  unfold zrunA
  omega
theorem zi_run {M : zCt} {d e : Nat → Int} {p : Int} (h : zCI M) : zCI (zw_run M d e p) := ⟨h.p, h.cn, h.cv, h.tp, h.rd, h.ct, h.nx, h.vw, h.v2, h.pt, zrunA_st p d e (M.1 26), h.md, h.ps⟩
theorem zi_setMove {M : zCt} {a b e c d k q : Int} (h : zCI M) : zCI (zw_setMove M a b e c d k q) := h
theorem zi_made {M : zCt} {md : Nat → Int} {q : Int} (h : zCI M) (hm : zcan 31 md) : zCI (zw_made M md q) := ⟨h.p, h.cn, h.cv, h.tp, h.rd, h.ct, h.nx, h.vw, h.v2, h.pt, h.st, hm, h.ps⟩
theorem zi_mset {M : zCt} {md : Nat → Int} (h : zCI M) (hm : zcan 31 md) : zCI (zw_mset M md) := ⟨h.p, h.cn, h.cv, h.tp, h.rd, h.ct, h.nx, h.vw, h.v2, h.pt, h.st, hm, h.ps⟩
end ZCh
