section ZCh
theorem zfind_p {a : Nat} {n i : Int} (h : 0 ≤ i ∧ i < n ∧ i < 6) : va_rf (zfind a n i) = .ref (a + 3 + 2 * i.toNat) := by unfold zfind; rw [if_pos h]; rfl
theorem zfind_n {a : Nat} {n i : Int} (h : ¬ (0 ≤ i ∧ i < n ∧ i < 6)) : va_rf (zfind a n i) = .null := by unfold zfind; rw [if_neg h]; rfl
theorem zCP.part {cI cP cS cZ cM : ClassId} {o : Nat} {M : zCt} {g : Nat → va_E} (h : zCP cI cP cS cZ cM o M g) : g (o + 615 + 1) = .inr (2, [.ref (o + 615 + 2)]) ∧ g (o + 615 + 2) = zA cI 25 (M.1 24) := by
  obtain ⟨_, _, _, q⟩ := h.c8
  exact ⟨q.2.1, q.2.2.1⟩
theorem zCP.shob {cI cP cS cZ cM : ClassId} {o : Nat} {M : zCt} {g : Nat → va_E} (h : zCP cI cP cS cZ cM o M g) : g (o + 615) = .inr (6, [.ref (o + 615 + 1), .ref (o + 615 + 3), .ref (o + 615 + 5), .ref (o + 615 + 7), .ref (o + 1)]) := by
  obtain ⟨_, _, _, q⟩ := h.c8
  exact q.1
theorem zCP.made {cI cP cS cZ cM : ClassId} {o : Nat} {M : zCt} {g : Nat → va_E} (h : zCP cI cP cS cZ cM o M g) : g (o + 634 + 1) = .inr (2, [.ref (o + 634 + 2)]) ∧ g (o + 634 + 2) = zA cI 25 (M.1 27) := by
  obtain ⟨_, _, _, _, _, _, _, _, _, _, q⟩ := h.c11
  exact q.2.1
theorem zCP.mkob {cI cP cS cZ cM : ClassId} {o : Nat} {M : zCt} {g : Nat → va_E} (h : zCP cI cP cS cZ cM o M g) : g (o + 634) = .inr (0, [.ref (o + 634 + 1), .ref (o + 634 + 3), .ref (o + 634 + 4), .ref (o + 634 + 5), .ref (o + 634 + 6), .ref (o + 634 + 8), .ref (o + 634 + 10), .ref (o + 634 + 12), .ref (o + 634 + 13), .int (zI (M.1 0 17))]) := by
  obtain ⟨_, _, _, _, _, _, _, _, _, _, q⟩ := h.c11
  exact q.1
theorem zgo_rng {M : zCt} {n p : Int} (hp : 2 ≤ p ∧ p ≤ 31) (h : ¬ bI (zpt n p) = 0) : ((zw_go M n p).1 0 10 = zpx n p ∧ (zw_go M n p).1 0 11 = zpy n p ∧ (zw_go M n p).1 0 12 = zpz n p) ∧ (0 ≤ (zw_go M n p).1 0 10 ∧ (zw_go M n p).1 0 10 < p) ∧ (0 ≤ (zw_go M n p).1 0 11 ∧ (zw_go M n p).1 0 11 < p) ∧ 0 ≤ (zw_go M n p).1 0 12 ∧ (zw_go M n p).1 0 12 ≤ 1 := by
  have hq := bI_1 h
  have e1 : (zw_go M n p).1 0 10 = zpx n p := zgo_t hq
  have e2 : (zw_go M n p).1 0 11 = zpy n p := zgo_t hq
  have e3 : (zw_go M n p).1 0 12 = zpz n p := zgo_t hq
  have h1 := zpx_rng hp hq
  have h2 := zpy_rng hp hq
  have h3 := zpz_01 n p
  exact ⟨⟨e1, e2, e3⟩, by rw [e1]; exact h1, by rw [e2]; exact h2, by rw [e3]; omega, by rw [e3]; omega⟩
theorem zv_go {M : zCt} {n p : Int} : zVE (zw_go M n p) M := zVE.of (fun k i h1 h2 => by rw [za_ne (by omega), za_ne (by omega), za_ne (by omega)])
theorem zv_look1 {M : zCt} {d : Nat → Int} {p : Int} : zVE (zw_look1 M d p) M := zVE.of (fun k i h1 h2 => by rw [zset_ne _ _ (by omega), za_ne (by omega)])
theorem zv_look2 {M : zCt} {d : Nat → Int} {p : Int} : zVE (zw_look2 M d p) M := zVE.of (fun k i h1 h2 => by rw [zset_ne _ _ (by omega), za_ne (by omega)])
theorem zv_often {M : zCt} {d : Nat → Int} : zVE (zw_often M d) M := zVE.of (fun k i h1 h2 => by rw [zset_ne _ _ (by omega)])
theorem zv_common {M : zCt} {d e : Nat → Int} {p : Int} : zVE (zw_common M d e p) M := zVE.of (fun k i h1 h2 => by rw [zset_ne _ _ (by omega)])
theorem zv_run {M : zCt} {d e : Nat → Int} {p : Int} : zVE (zw_run M d e p) M := zVE.of (fun k i h1 h2 => by rw [zset_ne _ _ (by omega), zset_ne _ _ (by omega), za_ne (by omega), za_ne (by omega)])
theorem zv_setMove {M : zCt} {a b e c d k q : Int} : zVE (zw_setMove M a b e c d k q) M := zVE.of (fun k i h1 h2 => by rw [zset_ne _ _ (by omega), zset_ne _ _ (by omega), za_ne (by omega)])
theorem zv_made {M : zCt} {md : Nat → Int} {q : Int} : zVE (zw_made M md q) M := zVE.of (fun k i h1 h2 => by rw [zset_ne _ _ (by omega), za_ne (by omega)])
theorem zv_mset {M : zCt} {md : Nat → Int} : zVE (zw_mset M md) M := zVE.of (fun k i h1 h2 => by rw [zset_ne _ _ (by omega)])
theorem zi_go {M : zCt} {n p : Int} (h : zCI M) : zCI (zw_go M n p) := h
theorem zi_look1 {M : zCt} {d : Nat → Int} {p : Int} (h : zCI M) (hp : 2 ≤ p ∧ p ≤ 31) : zCI (zw_look1 M d p) := ⟨h.p, h.cn, h.cv, h.tp, h.rd, h.ct, h.nx, ⟨hp, (show zcan p (zlook d p (M.1 0 10) (M.1 0 11) (M.1 0 12)) from zlook_can (by omega)), h.vw.2.2⟩, h.v2, h.pt, h.st, h.md, h.ps⟩
theorem zi_look2 {M : zCt} {d : Nat → Int} {p : Int} (h : zCI M) (hp : 2 ≤ p ∧ p ≤ 31) : zCI (zw_look2 M d p) := ⟨h.p, h.cn, h.cv, h.tp, h.rd, h.ct, h.nx, h.vw, zcan_le (zlook_can (by omega)) hp.2, h.pt, h.st, h.md, h.ps⟩
theorem zi_often {M : zCt} {lw : Nat → Int} (h : zCI M) (hl : zcan 31 lw) : zCI (zw_often M lw) := ⟨h.p, h.cn, h.cv, h.tp, h.rd, h.ct, h.nx, ⟨h.vw.1, h.vw.2.1, hl⟩, h.v2, h.pt, h.st, h.md, h.ps⟩
theorem zi_common {M : zCt} {d e : Nat → Int} {p : Int} (h : zCI M) (hp : 2 ≤ p ∧ p ≤ 31) : zCI (zw_common M d e p) := ⟨h.p, h.cn, h.cv, h.tp, h.rd, h.ct, h.nx, h.vw, h.v2, zcan_le (zcom_can (by omega)) hp.2, h.st, h.md, h.ps⟩
theorem zrun_st (p : Int) : ∀ (n : Nat) (st : Int) (F G o ki : Nat → Int) (sm : Int), st ≤ (zrun p n st F G o ki sm).2.1 ∧ (zrun p n st F G o ki sm).2.1 ≤ st + n + 1
  | 0, st, F, G, o, ki, sm => by simp only [zrun]; omega
  | n + 1, st, F, G, o, ki, sm => by
    have h := fun F G o ki sm => zrun_st p n (st + 1) F G o ki sm
    simp only [zrun]
    split
    · have := h (zspl F) G (zup o 1 (o 1 + 1)) (zup ki st.toNat 1) (sm + max (zlst G) 0); omega
    · split
      · have := h G F (zup o 2 (o 2 + 1)) (zup ki st.toNat 2) sm; omega
      · split
        · have := h F (zcut F G p) (zup o 3 (o 3 + 1)) (zup ki st.toNat 3) sm; omega
        · show st ≤ st + 1 ∧ st + 1 ≤ _
          omega
theorem zrunA_st (p : Int) (a b ki : Nat → Int) : 0 ≤ (zrunA p a b ki).2.1 ∧ (zrunA p a b ki).2.1 ≤ 2049 := by
  have h := zrun_st p (2048 - 0 : Int).toNat 0 (zld a) (zld b) (fun _ => 0) ki 0
  unfold zrunA
  omega
theorem zrun_sm (p : Int) : ∀ (n : Nat) (st : Int) (F G o ki : Nat → Int) (sm : Int), sm ≤ (zrun p n st F G o ki sm).1 ∧ (zrun p n st F G o ki sm).1 ≤ sm + 16 * n
  | 0, st, F, G, o, ki, sm => by simp only [zrun]; omega
  | n + 1, st, F, G, o, ki, sm => by
    have h := fun F G o ki sm => zrun_sm p n (st + 1) F G o ki sm
    simp only [zrun]
    split
    · have := h (zspl F) G (zup o 1 (o 1 + 1)) (zup ki st.toNat 1) (sm + max (zlst G) 0)
      have := zlst_rng G
      omega
    · split
      · have := h G F (zup o 2 (o 2 + 1)) (zup ki st.toNat 2) sm; omega
      · split
        · have := h F (zcut F G p) (zup o 3 (o 3 + 1)) (zup ki st.toNat 3) sm; omega
        · show sm ≤ sm ∧ sm ≤ _
          omega
theorem zrunA_sm (p : Int) (a b ki : Nat → Int) : 0 ≤ (zrunA p a b ki).1 ∧ (zrunA p a b ki).1 ≤ 32768 := by
  have h := zrun_sm p (2048 - 0 : Int).toNat 0 (zld a) (zld b) (fun _ => 0) ki 0
  unfold zrunA
  omega
theorem zi_run {M : zCt} {d e : Nat → Int} {p : Int} (h : zCI M) : zCI (zw_run M d e p) := ⟨h.p, h.cn, h.cv, h.tp, h.rd, h.ct, h.nx, h.vw, h.v2, h.pt, zrunA_st p d e (M.1 26), h.md, h.ps⟩
theorem zi_setMove {M : zCt} {a b e c d k q : Int} (h : zCI M) : zCI (zw_setMove M a b e c d k q) := h
theorem zi_made {M : zCt} {md : Nat → Int} {q : Int} (h : zCI M) (hm : zcan 31 md) : zCI (zw_made M md q) := ⟨h.p, h.cn, h.cv, h.tp, h.rd, h.ct, h.nx, h.vw, h.v2, h.pt, h.st, hm, h.ps⟩
theorem zi_mset {M : zCt} {md : Nat → Int} (h : zCI M) (hm : zcan 31 md) : zCI (zw_mset M md) := ⟨h.p, h.cn, h.cv, h.tp, h.rd, h.ct, h.nx, h.vw, h.v2, h.pt, h.st, hm, h.ps⟩
noncomputable def zsmv (a b e c d k q : Int) : Int := if zdet (zlin3 (a % q) (b % q) (e % q)) (zlin3 (c % q) (d % q) (k % q)) q = 0 then 0 else 1
theorem zsmv_rng (a b e c d k q : Int) : 0 ≤ zsmv a b e c d k q ∧ zsmv a b e c d k q ≤ 1 := by unfold zsmv; split <;> omega
theorem zsmv_c {a b e c d k q : Int} {M : zCt} (hq : 2 ≤ q) : zcan q ((zw_setMove M a b e c d k q).1 28) ∧ zcan q ((zw_setMove M a b e c d k q).1 29) ∧ (zw_setMove M a b e c d k q).1 0 17 = q ∧ (zw_setMove M a b e c d k q).1 0 3 = M.1 0 3 ∧ (zw_setMove M a b e c d k q).1 0 4 = M.1 0 4 ∧ (zw_setMove M a b e c d k q).2 = M.2 :=
  ⟨(show zcan q (zlin3 (a % q) (b % q) (e % q)) from zlin3_can (zmr _ (by omega)) (zmr _ (by omega)) (zmr _ (by omega))), (show zcan q (zlin3 (c % q) (d % q) (k % q)) from zlin3_can (zmr _ (by omega)) (zmr _ (by omega)) (zmr _ (by omega))), rfl, rfl, rfl, rfl⟩
theorem zthZ_rng (a b q : Int) : 0 ≤ zthZ a b q ∧ zthZ a b q ≤ 1 := by
  unfold zthZ
  split
  · unfold zmlb; split <;> omega
  · omega
theorem zthP_c {a b q p : Int} {d : Nat → Int} (hq : 0 < q) (hqp : q ≤ p) (h : zcan p d) : zcan p (zthP a b q d) := by
  unfold zthP
  split
  · exact zcan_le (zml_can hq) hqp
  · exact h
theorem zthP_1 {a b q : Int} {d : Nat → Int} (hq : 0 < q) (h : ¬ zthZ a b q = 0) : zcan q (zthP a b q d) := by
  unfold zthZ at h
  unfold zthP
  by_cases hx : a ≠ b ∧ zpt a q ∧ zpt b q
  · rw [if_pos hx]; exact zml_can hq
  · rw [if_neg hx] at h; exact absurd rfl h
noncomputable def zltP (d : Nat → Int) (x y z q : Int) : Nat → Int := zml (ztan d x y z).1 (ztan d x y z).2.1 (ztan d x y z).2.2 q
noncomputable def zltZ (d : Nat → Int) (x y z q : Int) : Int := zmlb (ztan d x y z).1 (ztan d x y z).2.1 (ztan d x y z).2.2 q
theorem zltZ_rng (d : Nat → Int) (x y z q : Int) : 0 ≤ zltZ d x y z q ∧ zltZ d x y z q ≤ 1 := by unfold zltZ zmlb; split <;> omega
theorem zi_append {M : zCt} {x : Int} (h : zCI M) : zCI (zw_append M x) := ⟨h.p, h.cn, h.cv, (zapp_ok (x := x) (s := (M.1 0 2, M.1 2)) h.tp).1, h.rd, h.ct, h.nx, h.vw, h.v2, h.pt, h.st, h.md, h.ps⟩
theorem zi_len {M : zCt} {n : Int} (h : zCI M) (hn : 0 ≤ n ∧ n ≤ 1000) : zCI (zw_len M n) := ⟨h.p, h.cn, h.cv, ⟨hn.1, hn.2, h.tp.2.2⟩, h.rd, h.ct, h.nx, h.vw, h.v2, h.pt, h.st, h.md, h.ps⟩
theorem zi_read {M : zCt} (h : zCI M) (hc : zcI (M.1 0 2) (zrt (M.1 0 2) (M.1 2) M.2.2.2.2).2) : zCI (zw_read M) := ⟨h.p, h.cn, h.cv, h.tp, ⟨hc.2.2.2.1, hc.2.2.2.2.1, hc.2.2.2.2.2.1⟩, h.ct, h.nx, h.vw, h.v2, h.pt, h.st, h.md, h.ps⟩
theorem zi_take {M : zCt} {n : Int} (h : zCI M) (hc : zcI n M.2.2.2.2) : zCI (zw_take M) := ⟨hc.2.1, hc.2.2.1, hc.2.2.2.2.2.2, h.tp, h.rd, h.ct, h.nx, h.vw, h.v2, h.pt, h.st, h.md, h.ps⟩
theorem zi_forget {M : zCt} (h : zCI M) : zCI (zw_forget M) := ⟨h.p, h.cn, h.cv, h.tp, h.rd, (show 0 ≤ (0 : Int) ∧ (0 : Int) ≤ 20 from ⟨by decide, by decide⟩), h.nx, h.vw, h.v2, h.pt, h.st, h.md, h.ps⟩
theorem zi_keep {M : zCt} (h : zCI M) : zCI (zw_keep M) := ⟨h.p, h.cn, h.cv, h.tp, h.rd, (show 0 ≤ min (M.1 0 5 + 1) 20 ∧ min (M.1 0 5 + 1) 20 ≤ 20 from by have := h.ct; omega), (show 0 ≤ (if M.1 0 6 + 1 < 20 then M.1 0 6 + 1 else 0) ∧ (if M.1 0 6 + 1 < 20 then M.1 0 6 + 1 else 0) < 20 from by have := h.nx; split <;> omega), h.vw, h.v2, h.pt, h.st, h.md, fun i hi => by
    show (2 ≤ zset (M.1 40) (M.1 0 6).toNat (M.1 0 3) i ∧ zset (M.1 40) (M.1 0 6).toNat (M.1 0 3) i ≤ 31) ∧ (0 ≤ zset (M.1 41) (M.1 0 6).toNat (M.1 0 4) i ∧ zset (M.1 41) (M.1 0 6).toNat (M.1 0 4) i ≤ 6) ∧ ∀ k : Nat, (k : Int) < zset (M.1 41) (M.1 0 6).toNat (M.1 0 4) i → zcan (zset (M.1 40) (M.1 0 6).toNat (M.1 0 3) i) (zset M.2.2.2.1 (M.1 0 6).toNat M.2.1 i k)
    by_cases e : i = (M.1 0 6).toNat
    · rw [e, zset_self, zset_self, zset_self]; exact ⟨h.p, h.cn, h.cv⟩
    · rw [zset_ne _ _ e, zset_ne _ _ e, zset_ne _ _ e]; exact h.ps i hi⟩
theorem zk_keep {M : zCt} : (zw_keep M).1 28 = M.1 28 ∧ (zw_keep M).1 29 = M.1 29 ∧ (zw_keep M).1 27 = M.1 27 ∧ (zw_keep M).1 0 17 = M.1 0 17 ∧ (zw_keep M).1 0 3 = M.1 0 3 ∧ (zw_keep M).1 0 4 = M.1 0 4 ∧ (zw_keep M).2.1 = M.2.1 := ⟨rfl, rfl, rfl, rfl, rfl, rfl, rfl⟩
theorem zi_back {M : zCt} (h : zCI M) (hc : 0 < M.1 0 5) : zCI (zw_back M) := by
  have hn := h.nx
  have hcx := h.ct
  have hi : (if 0 < M.1 0 6 then M.1 0 6 - 1 else 19).toNat < 20 := by split <;> omega
  have hq := h.ps _ hi
  exact ⟨hq.1, hq.2.1, hq.2.2, h.tp, h.rd, (show 0 ≤ M.1 0 5 - 1 ∧ M.1 0 5 - 1 ≤ 20 from by omega), (show 0 ≤ (if 0 < M.1 0 6 then M.1 0 6 - 1 else 19) ∧ (if 0 < M.1 0 6 then M.1 0 6 - 1 else 19) < 20 from by split <;> omega), h.vw, h.v2, h.pt, h.st, h.md, h.ps⟩
noncomputable def zw_undo (M : zCt) : zCt := if M.1 0 5 = 0 then M else zw_back M
theorem zi_undo {M : zCt} (h : zCI M) : zCI (zw_undo M) := by
  have hc := h.ct
  unfold zw_undo
  split
  · exact h
  · exact zi_back h (by omega)
theorem zr_undo {cI cP cS cZ cM : ClassId} {o : Nat} {M : zCt} {f g : Nat → va_E} {z : Int} (hP : zCP cI cP cS cZ cM o M f) (hc : 0 ≤ M.1 0 5) (hok : (M.1 0 5 = 0 → z = 0 ∧ g = f) ∧ (0 < M.1 0 5 → z = 1 ∧ (∀ q, q ≠ o + 304 → ¬ (o + 289 ≤ q ∧ q < o + 289 + 15) → g q = f q) ∧ zPast cI cP cS g (o + 304) (M.1 0 5 - 1) (if 0 < M.1 0 6 then M.1 0 6 - 1 else 19) (M.1 40) (M.1 41) M.2.2.2.1 M.2.2.1 ∧ zShelf cI cP g (o + 289) (M.1 40 (if 0 < M.1 0 6 then M.1 0 6 - 1 else 19).toNat) (M.1 41 (if 0 < M.1 0 6 then M.1 0 6 - 1 else 19).toNat) (M.2.2.2.1 (if 0 < M.1 0 6 then M.1 0 6 - 1 else 19).toNat) (M.2.2.1 (if 0 < M.1 0 6 then M.1 0 6 - 1 else 19).toNat))) : zCP cI cP cS cZ cM o (zw_undo M) g ∧ (∀ q, q ≠ o + 304 → ¬ (o + 289 ≤ q ∧ q < o + 289 + 15) → g q = f q) ∧ (if M.1 0 5 = 0 then 0 else 1) = z := by
  unfold zw_undo
  by_cases h : M.1 0 5 = 0
  · have hq := hok.1 h
    rw [if_pos h, if_pos h, hq.2]
    exact ⟨hP, fun q _ _ => rfl, hq.1.symm⟩
  · obtain ⟨hz, h1, h2, h3⟩ := hok.2 (by omega)
    rw [if_neg h, if_neg h]
    exact ⟨zr_back hP h1 h2 h3, h1, hz.symm⟩
theorem zi_add {M : zCt} (h : zCI M) (hn : M.1 0 4 < 6) (hm : zcan (M.1 0 3) (M.1 27)) : zCI (zw_add M) := ⟨h.p, (show 0 ≤ M.1 0 4 + 1 ∧ M.1 0 4 + 1 ≤ 6 from by have := h.cn; omega), fun k hk => by
    show zcan (M.1 0 3) (zset M.2.1 (M.1 0 4).toNat (M.1 27) k)
    have hk : (k : Int) < M.1 0 4 + 1 := hk
    by_cases e : k = (M.1 0 4).toNat
    · rw [e, zset_self]; exact hm
    · rw [zset_ne _ _ e]; exact h.cv k (by have := h.cn; omega), h.tp, h.rd, h.ct, h.nx, h.vw, h.v2, h.pt, h.st, h.md, h.ps⟩
theorem zremC_c {p n : Int} {C : Nat → Nat → Int} {i : Int} (hi : 0 ≤ i) (h : ∀ k : Nat, (k : Int) < n → zcan p (C k)) : ∀ d : Nat, i + d < n → ∀ k : Nat, (k : Int) < n → zcan p (zremC C i (i + d) k)
  | 0, _ => by rw [show i + ((0 : Nat) : Int) = i by omega, zremC_0]; exact h
  | d + 1, hd => fun k hk => by
    have ih := zremC_c hi h d (by omega)
    rw [show i + ((d + 1 : Nat) : Int) = (i + d) + 1 by omega, zremC_s _ (by omega)]
    by_cases e : k = (i + d).toNat
    · rw [e, zset_self]; exact ih _ (by omega)
    · rw [zset_ne _ _ e]; exact ih _ hk
theorem zi_remove {M : zCt} {i : Int} (h : zCI M) (hi : 0 ≤ i ∧ i < M.1 0 4) : zCI (zw_remove M i) := ⟨h.p, (show 0 ≤ M.1 0 4 - 1 ∧ M.1 0 4 - 1 ≤ 6 from by have := h.cn; omega), fun k hk => by
    show zcan (M.1 0 3) (zremC M.2.1 i (M.1 0 4 - 1) k)
    have hk : (k : Int) < M.1 0 4 - 1 := hk
    have hq := zremC_c (p := M.1 0 3) hi.1 h.cv (M.1 0 4 - 1 - i).toNat (by omega) k (by omega)
    rw [show i + ((M.1 0 4 - 1 - i).toNat : Int) = M.1 0 4 - 1 by omega] at hq
    exact hq, h.tp, h.rd, h.ct, h.nx, h.vw, h.v2, h.pt, h.st, h.md, h.ps⟩
theorem zi_moveAll {M : zCt} (h : zCI M) (e : M.1 0 17 = M.1 0 3) : zCI (zw_moveAll M) := ⟨h.p, h.cn, fun k hk => by
    show zcan (M.1 0 3) (if (k : Int) < M.1 0 4 then zmv (M.2.1 k) (zpws (M.1 28) (M.1 0 17)) (zpws (M.1 29) (M.1 0 17)) (M.1 0 17) else M.2.1 k)
    have hk : (k : Int) < M.1 0 4 := hk
    have hp := h.p
    rw [if_pos hk, e]
    exact zmv_can (by omega), h.tp, h.rd, h.ct, h.nx, h.vw, h.v2, h.pt, h.st, h.md, h.ps⟩
end ZCh
