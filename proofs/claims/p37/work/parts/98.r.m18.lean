section ZWt
theorem nA_c24 {M : zCt} {p : Int} {a b : Nat → Int} (h : zP2 M p a b) : (zw_common M (M.2.1 (0 : Int).toNat) (M.2.1 (1 : Int).toNat) (M.1 0 3)).1 24 = zcmP a b p := by
  rw [zw_common24, h.1.1]
  rw [show M.2.1 (0 : Int).toNat = a from h.2.1, show M.2.1 (1 : Int).toNat = b from h.2.2]
theorem nA_total {M : zCt} {p : Int} {a b : Nat → Int} (h : zP2 M p a b) (hp : 2 ≤ p ∧ p ≤ 31) (h0 : ztop (zcmP a b p) = 0) {T : Int → Nat} (hT : kM_all p a b T) : (zc_total M 0 1 0).1 = ztop a * ztop b ∧ (zc_total M 0 1 1).1 = znrP a b p ∧ (zc_total M 0 1 2).1 = ztop a * ztop b - znrP a b p ∧ (zc_total M 0 1 3).1 = (ksm T 0 (p * p) : Nat) ∧ (zc_total M 0 1 4).1 = (ksm T (p * p) (zmany p) : Nat) := by
  have hz := zmany_le hp
  have c24 := nA_c24 h
  have hP : zP2 (zw_common M (M.2.1 (0 : Int).toNat) (M.2.1 (1 : Int).toNat) (M.1 0 3)) p a b := zP2.ve h zv_common
  have e3 := nA_btw h hp hT (N := zw_common M (M.2.1 (0 : Int).toNat) (M.2.1 (1 : Int).toNat) (M.1 0 3)) zv_common c24 (fr := 0) (to := p * p) (by omega) (by omega) (by omega) (by omega)
  have e4 := nA_btw h hp hT (N := zw_common M (M.2.1 (0 : Int).toNat) (M.2.1 (1 : Int).toNat) (M.1 0 3)) zv_common c24 (fr := p * p) (to := zmany p) (by omega) (by omega) (by omega) (by omega)
  obtain ⟨N, hN⟩ : ∃ N, N = zw_common M (M.2.1 (0 : Int).toNat) (M.2.1 (1 : Int).toNat) (M.1 0 3) := ⟨_, rfl⟩
  rw [← hN] at c24 hP e3 e4
  have ea : N.2.1 (0 : Int).toNat = a := hP.2.1
  have eb : N.2.1 (1 : Int).toNat = b := hP.2.2
  have ep : N.1 0 3 = p := hP.1.1
  have st : ∀ what, zc_total M 0 1 what = zlet (ztop (N.2.1 (0 : Int).toNat)) (fun z58 => zlet (ztop (N.2.1 (1 : Int).toNat)) (fun z63 => (if what = 0 then (z58 * z63, N) else (if what = 1 then zlet (znrP (N.2.1 (0 : Int).toNat) (N.2.1 (1 : Int).toNat) (N.1 0 3)) (fun z138 => (z138, N)) else (if what = 2 then zlet (znrP (N.2.1 (0 : Int).toNat) (N.2.1 (1 : Int).toNat) (N.1 0 3)) (fun z159 => ((z58 * z63) - z159, N)) else (if what = 3 then zlet (zc_timesBetween N 0 1 0 ((N.1 0 3) * (N.1 0 3))) (fun q172 => (fun (z172 : Int) (M172 : zCt) => (z172, M172)) q172.1 q172.2) else (if what = 4 then zlet (zmany (N.1 0 3)) (fun z190 => zlet (zc_timesBetween N 0 1 ((N.1 0 3) * (N.1 0 3)) z190) (fun q193 => (fun (z193 : Int) (M193 : zCt) => (z193, M193)) q193.1 q193.2)) else (-1, N)))))))) := fun what => by
    unfold zc_total
    rw [if_pos (h.i (Or.inl rfl)), if_pos (h.i (Or.inr rfl)), zlet_v, zlet_v, ← hN, c24, h0, if_pos (by decide)]
  refine ⟨?_, ?_, ?_, ?_, ?_⟩
  · rw [st, zlet_v, zlet_v, if_pos rfl, ea, eb]
  · rw [st, zlet_v, zlet_v, if_neg (by decide), if_pos rfl, zlet_v, ea, eb, ep]
  · rw [st, zlet_v, zlet_v, if_neg (by decide), if_neg (by decide), if_pos rfl, zlet_v, ea, eb, ep]
  · rw [st, zlet_v, zlet_v, if_neg (by decide), if_neg (by decide), if_neg (by decide), if_pos rfl, zlet_v, ep]
    exact e3
  · rw [st, zlet_v, zlet_v, if_neg (by decide), if_neg (by decide), if_neg (by decide), if_neg (by decide), if_pos rfl, zlet_v, zlet_v, ep]
    exact e4
theorem nA_totalNo {M : zCt} {p : Int} {a b : Nat → Int} (h : zP2 M p a b) (h0 : 0 < ztop (zcmP a b p)) (what : Int) : (zc_total M 0 1 what).1 = -1 := by
  have c24 := nA_c24 h
  unfold zc_total
  rw [if_pos (h.i (Or.inl rfl)), if_pos (h.i (Or.inr rfl)), zlet_v, zlet_v, c24, if_neg (by omega)]
theorem nA_parts {M : zCt} {p : Int} {a b : Nat → Int} (h : zP2 M p a b) (h0 : ztop (zcmP a b p) = 0) (ta : 1 ≤ ztop a ∧ ztop a ≤ 4) (tb : 1 ≤ ztop b ∧ ztop b ≤ 4) : (zc_parts M 0 1 24).1 = ztop a * ztop b ∧ (zc_parts M 0 1 0).1 = 1 := by
  have c24 := nA_c24 h
  have st : ∀ d, 0 ≤ d ∧ d ≤ 24 → (zc_parts M 0 1 d).1 = ((zc_forms d - zc_forms (d - ztop a)) - zc_forms (d - ztop b)) + zc_forms (d - ((ztop a + ztop b) - 0)) := fun d hd => by
    unfold zc_parts
    rw [if_pos (h.i (Or.inl rfl)), if_pos (h.i (Or.inr rfl)), if_neg (by omega), if_pos hd.2]
    simp only [zlet_v]
    rw [c24, h0, show M.2.1 (0 : Int).toNat = a from h.2.1, show M.2.1 (1 : Int).toNat = b from h.2.2]
  rw [st 24 (by decide), st 0 (by decide)]
  rcases (show ztop a = 1 ∨ ztop a = 2 ∨ ztop a = 3 ∨ ztop a = 4 by omega) with e | e | e | e <;> rcases (show ztop b = 1 ∨ ztop b = 2 ∨ ztop b = 3 ∨ ztop b = 4 by omega) with q | q | q | q <;> rw [e, q] <;> decide
/-- a CURVE and itself -/
theorem kU_self {K : Type} [Lean.Grind.CommRing K] (hK : ka_F K) {f : Nat → Nat → K} {n : Nat} (f1 : ∀ i j, n < i + j → f i j = 0) (f2 : ∃ i j, i + j = n ∧ f i j ≠ 0) : kUW f f (kc_t 1 0 0) (kc_t 1 0 0) f := by
  have pl1 : kc_pl (kc_t (1 : K) 0 0) := ⟨1, fun i j hij => if_neg (by omega)⟩
  have n1 : ∃ i j, kc_t (1 : K) 0 0 i j ≠ 0 := ⟨0, 0, by
    show (if 0 = 0 ∧ 0 = 0 then (1 : K) else 0) ≠ 0
    rw [if_pos ⟨rfl, rfl⟩]
    exact hK.1⟩
  have e1 : ∀ X : Nat → Nat → K, X = kc_mul X (kc_t 1 0 0) := fun X => by rw [kc_mul_comm, kc_1_mul]
  exact ⟨pl1, pl1, ⟨n + 1, fun i j hij => f1 i j (by omega)⟩, n1, n1, e1 f, e1 f, fun u' w' p1 p2 e => ⟨u', p1, e1 u', by rw [← e1]; exact (kc_canc hK p1 p2 f1 f2 e).symm⟩⟩
theorem nA_self {M : zCt} {p : Int} {a b : Nat → Int} (h : zP2 M p a b) (hpr : zPr p) (ha : zcan p a) (hfa : zflt a) (ta : 1 ≤ ztop a) {q : Int} (hq : zpt q p) : (zc_times M 0 0 q).1 = if zval a (zpx q p) (zpy q p) (zpz q p) p = 0 then -2 else 0 := by
  obtain ⟨K, iK, φ, hK⟩ := zKp_ex hpr
  have hp := zPr_2 hpr
  have ta4 := zT_le a
  obtain ⟨n, hn⟩ : ∃ n : Nat, (n : Int) = ztop a := ⟨(ztop a).toNat, by omega⟩
  obtain ⟨f1, f2⟩ := zT_ed hK (fun i j _ => ha _) hn
  obtain ⟨⟨ν, ν0, d4⟩, d5⟩ := kpartC hK hp.1 ha ha (by omega) (by omega) (kU_self hK.F f1 f2)
  have cc : zcan p (zcmP a a p) := zcom_can (by omega)
  have te : ztop (zcmP a a p) = n := zT_eq hK (fun i j _ => cc _) (n := n) (fun i j hij => by
    rw [d4]
    show ν * zq φ a i j = 0
    rw [f1 i j hij, ka_mz]) (by
    obtain ⟨i, j, hij, q⟩ := f2
    refine ⟨i, j, hij, ?_⟩
    rw [d4]
    intro z
    rcases hK.F.dom _ _ z with z | z
    · exact ν0 z
    · exact q z)
  have ev : zval (zcmP a a p) (zpx q p) (zpy q p) (zpz q p) p = 0 ↔ zval a (zpx q p) (zpy q p) (zpz q p) p = 0 := by
    rw [kM_v0 hK hpr zcmP_fl te.symm q, kM_v0 hK hpr hfa hn q, d4]
    have k2 := (kLam_ok φ p q).2.2.1 n (fun _ => ν) (fun _ => zq φ a) 1
    have k3 : (fun i j => ka_s (fun t => (fun _ => ν) t * (fun _ => zq φ a) t i j) 1) = fun i j => ν * zq φ a i j := funext fun i => funext fun j => ka_za _
    rw [k3] at k2
    rw [k2]
    show 0 + ν * kLam φ p q n (zq φ a) 0 0 = 0 ↔ _
    rw [ka_za]
    refine ⟨fun z => ?_, fun z => by rw [z, ka_mz]⟩
    rcases hK.F.dom _ _ z with z | z
    · exact absurd z ν0
    · exact z
  have ee : zc_times M 0 0 q = zc_timesAt (zw_common M (M.2.1 (0 : Int).toNat) (M.2.1 (0 : Int).toNat) (M.1 0 3)) 0 0 q := by
    unfold zc_times
    rw [if_pos (h.i (Or.inl rfl)), if_pos (h.i (Or.inl rfl)), bI_t (show zpt q (M.1 0 3) by rw [h.1.1]; exact hq)]
    simp only [zlet_v]
    rw [if_neg (by decide)]
  have c24 : (zw_common M (M.2.1 (0 : Int).toNat) (M.2.1 (0 : Int).toNat) (M.1 0 3)).1 24 = zcmP a a p := by
    rw [zw_common24, h.1.1]
    rw [show M.2.1 (0 : Int).toNat = a from h.2.1]
  rw [ee]
  by_cases c : zval a (zpx q p) (zpy q p) (zpz q p) p = 0
  · rw [if_pos c]
    rcases zc_times_st (N := zw_common M (M.2.1 (0 : Int).toNat) (M.2.1 (0 : Int).toNat) (M.1 0 3)) (M := M) zv_common (by rw [h.1.1]; exact hp) (a := 0) (b := 0) (pt := q) (by rw [h.1.1]; exact hq) c24 with ⟨_, N', e, _⟩ | ⟨z, _⟩
    · rw [e]
    · rw [h.1.1] at z
      exact absurd (ev.2 c) z
  · rw [if_neg c]
    obtain ⟨N', ki, e, _⟩ := nA_at h hp (N := zw_common M (M.2.1 (0 : Int).toNat) (M.2.1 (0 : Int).toNat) (M.1 0 3)) zv_common (k := 0) (j := 0) (Or.inl rfl) (Or.inl rfl) hq c24 (fun z => c (ev.1 z))
    rw [e]
    show (kRn p a a q ki).1 = 0
    have w0 : zwhich (zld (zlook a p (zpx q p) (zpy q p) (zpz q p))) (zld (zlook a p (zpx q p) (zpy q p) (zpz q p))) = 0 := by
      refine if_pos (Or.inl ?_)
      have := zld_sp (zlook a p (zpx q p) (zpy q p) (zpz q p)) (i := 0) (j := 0) (by decide) (by decide)
      rw [this, if_pos (by decide)]
      rw [zlook_0 hpr hfa (by omega) q] at c
      exact c
    unfold kRn zrun
    rw [if_neg (by omega), if_neg (by omega), if_neg (by omega)]
theorem nA_none {M : zCt} {p : Int} {a b : Nat → Int} (h : zP2 M p a b) : (zc_times M 0 2 0).1 = -1 ∧ (zc_size M 0 1 (zmany p)).1 = -1 ∧ (zc_parts M 0 1 25).1 = -1 := by
  have h2 := h.1.2
  refine ⟨?_, ?_, ?_⟩
  · unfold zc_times
    rw [if_pos (h.i (Or.inl rfl)), if_neg (by omega)]
  · unfold zc_size
    rw [if_pos (h.i (Or.inl rfl)), if_pos (h.i (Or.inr rfl)), h.1.1, bI_f (fun z : zpt (zmany p) p => by have := z.2; omega), zlet_v, zlet_v, if_pos rfl]
  · unfold zc_parts
    rw [if_pos (h.i (Or.inl rfl)), if_pos (h.i (Or.inr rfl)), if_neg (by decide), if_neg (by decide)]
theorem nA_has {M : zCt} {p : Int} {a b : Nat → Int} (h : zP2 M p a b) : (zc_has M 0).1 = p ∧ (zc_has M 1).1 = 2 ∧ (zc_has M 2).1 = zmany p := by
  unfold zc_has
  refine ⟨?_, ?_, ?_⟩
  · rw [if_pos rfl, h.1.1]
  · rw [if_neg (by decide), if_pos rfl, h.1.2]
  · rw [if_neg (by decide), if_neg (by decide), if_pos rfl, zlet_v, h.1.1]
/-- the COMMON PART's DEGREE is in between -/
theorem kM_cd {p : Int} (hpr : zPr p) {a b : Nat → Int} (ha : zcan p a) (hb : zcan p b) (fa : 0 ≤ ztop a) (fb : 0 ≤ ztop b) : 0 ≤ ztop (zcmP a b p) ∧ ztop (zcmP a b p) ≤ ztop a ∧ ztop (zcmP a b p) ≤ ztop b := by
  obtain ⟨K, iK, φ, h⟩ := zKp_ex hpr
  have hp := zPr_2 hpr
  obtain ⟨n, hn⟩ : ∃ n : Nat, (n : Int) = ztop a := ⟨(ztop a).toNat, by omega⟩
  obtain ⟨m, hm⟩ : ∃ m : Nat, (m : Int) = ztop b := ⟨(ztop b).toNat, by omega⟩
  obtain ⟨u, w, hh, hU⟩ := kUW_ex h ha hb fa fb
  obtain ⟨f1, f2⟩ := zT_ed h (fun i j _ => ha _) hn
  obtain ⟨g1, g2⟩ := zT_ed h (fun i j _ => hb _) hm
  obtain ⟨e, nu, nw, em, en, ⟨h1, h2⟩, _, _⟩ := kUW_dg h.F hU f1 f2 g1 g2
  obtain ⟨⟨ν, ν0, d4⟩, d5⟩ := kpartC h hp.1 ha hb fa fb hU
  have cc : zcan p (zcmP a b p) := zcom_can (by omega)
  have te : ztop (zcmP a b p) = e := zT_eq h (fun i j _ => cc _) (n := e) (fun i j hij => by
    rw [d4]
    show ν * hh i j = 0
    rw [h1 i j hij, ka_mz]) (by
    obtain ⟨i, j, hij, q⟩ := h2
    refine ⟨i, j, hij, ?_⟩
    rw [d4]
    intro z
    rcases h.F.dom _ _ z with z | z
    · exact ν0 z
    · exact q z)
  omega
end ZWt
