section ZLn
theorem zmK0 {M : zCt} {p : Int} {a b : Nat → Int} (h : zP2 M p a b) (hp : 2 ≤ p ∧ p ≤ 31) {T : Int → Nat} (hT : kM_all p a b T) {many q : Int} (hm : many = kcnt T q.toNat) (hq : zpt q p) (hr : 0 < T q) : (zc_meet M 0 1 many 0).1 = q := by
  have e : ((q.toNat : Nat) : Int) = q := by
    have := hq.1
    omega
  have z := nA_meetK h hp hT (what := 0) (Or.inl rfl) (r := q.toNat) (by rw [e]; exact hr) (by rw [e]; exact hq.2)
  rw [hm, z, if_pos rfl, e]
theorem zmK1 {M : zCt} {p : Int} {a b : Nat → Int} (h : zP2 M p a b) (hp : 2 ≤ p ∧ p ≤ 31) {T : Int → Nat} (hT : kM_all p a b T) {many q : Int} (hm : many = kcnt T q.toNat) (hq : zpt q p) (hr : 0 < T q) : (zc_meet M 0 1 many 1).1 = T q := by
  have e : ((q.toNat : Nat) : Int) = q := by
    have := hq.1
    omega
  have z := nA_meetK h hp hT (what := 1) (Or.inr rfl) (r := q.toNat) (by rw [e]; exact hr) (by rw [e]; exact hq.2)
  rw [hm, z, if_neg (by decide), e]
set_option maxRecDepth 100000 in
set_option maxHeartbeats 4000000 in
/-- balances -/
theorem c_balances (l : Launch) {D : va_G} {cI cJ cZ cP cS cM : ClassId} {L : List Nat} {sz : Nat} {f : Nat → va_E} (o : Nat) (M : zCt) (p : Int) (a b : Nat → Int) (hP0 : zCP cI cP cS cZ cM o M f) (hC0 : zCI M) (hz0 : zP2 M p a b) (hpr : zPr p) (hp7 : 2 ≤ p ∧ p ≤ 7) (ha : zcan p a) (hb : zcan p b) (hfa : zflt a) (hfb : zflt b) (ta : 1 ≤ ztop a ∧ ztop a ≤ 4) (tb : 1 ≤ ztop b ∧ ztop b ≤ 3) : zXi l yL_balances wsL_balances 8 202 0 0 D (zT cI cJ cZ cP cS cM) L sz f [.ref o, .int (zI p), .int (zI 0), .int (zI 1)] (fun z g => z = 1 ∧ ∃ N, zCP cI cP cS cZ cM o N g ∧ zCI N ∧ zP2 N p a b ∧ zFr f g o (o + 681)) := by
  have hcd := kM_cd hpr ha hb (by omega) (by omega)
  have hmr := zmany_rng (zPr_2 hpr)
  have hpd : 1 ≤ ztop a * ztop b ∧ ztop a * ztop b ≤ 16 := by
    rcases (show ztop a = 1 ∨ ztop a = 2 ∨ ztop a = 3 ∨ ztop a = 4 by omega) with e | e | e | e <;> rw [e] <;> omega
  refine zyWalk.met (nL := 15) (ret := (some .boolean)) (cc := cL_balances) (by decide) rfl (Nat.le_of_ble_eq_true rfl) ?_
  intro pg en st mi ag bl mt cd ls CX hin hW hl
  have CX : zC pg st mi ag mt cd cL_balances 15 (some .boolean) RL wsL_balances := CX
  generalize hQ : MQ bl _ ag st 0 0 _ = Q
  have hX0 := CX.1
  have hB0 := CX.2.1
  have hl : lv_has ls 15 [(0, .ref o), (1, .int (zI p)), (2, .int (zI 0)), (3, .int (zI 1))] := hl
  obtain ⟨H, eH⟩ : ∃ H, H = st.heap := ⟨_, rfl⟩
  obtain ⟨locs, eL⟩ : ∃ L : List Loc, L = [] := ⟨_, rfl⟩
  have hW : zW D (zT cI cJ cZ cP cS cM) L (zQ L sz) st f st.heap H locs := by rw [eH, eL]; exact hW
  suffices hgo : W pg l en ({ frames := 8, cells := 0, slots := 0, locals := 202 } : Room) st mi ag bl mt cd H locs 0 0 Q (F0 mi 0 ls []) by rw [eH, eL] at hgo; exact hgo
  clear eH eL
  refine lv_aload_n hX0 hB0 dL_balances_0 rfl (lv_at hl 0 rfl) ?_
  refine lv_iload_n hX0 hB0 dL_balances_1 rfl (lv_at hl 2 rfl) ?_
  refine z_calli hW (va_runV (C := RX11) (As := [.int (zI 0)]) (rest := []) CX.fix (zd_degree l (f := f) o M 0 hP0 hC0 (by omega)) (cwV 1 CX.fix.2.2.2.2 gL_balances_X11_degree rfl rfl rfl (by decide +kernel) ⟨Nat.le_of_ble_eq_true rfl, Nat.le_of_ble_eq_true rfl⟩) (z_preV CX hW (r := (RX11, TX11, 13)) (show f o = _ from hP0.c0) rfl) rfl rfl hl.1 rfl (lv_room (Nat.le_of_ble_eq_true rfl)) dL_balances_2 ⟨by show _ ≤ 0; omega, by show _ ≤ 0; omega⟩) (fun zv gn H locs hok2 hW => ?_)
  obtain ⟨ez, hP1, hC1, hF1, hV1, hR1⟩ := hok2
  have ev1 : (zc_degree M 0).1 = ztop a := nA_degree hz0 (Or.inl rfl)
  rw [ez, ev1]
  clear ez ev1
  obtain ⟨N1, eN1⟩ : ∃ Z9, Z9 = (zc_degree M 0).2 := ⟨_, rfl⟩
  rw [← eN1] at hP1 hC1 hV1
  clear eN1
  obtain ⟨g1, eg1⟩ : ∃ q, q = gn := ⟨_, rfl⟩
  rw [← eg1] at hW hP1 hF1
  clear eg1
  have hz1 : zP2 N1 p a b := hz0.ve hV1
  have hG1 : zFr f g1 o (o + 681) := zFr.tr2 zFr.refl hF1
  refine lv_aload_n hX0 hB0 dL_balances_5 rfl (lv_at hl 0 rfl) ?_
  refine lv_iload_n hX0 hB0 dL_balances_6 rfl (lv_at hl 3 rfl) ?_
  refine z_calli hW (va_runV (C := RX11) (As := [.int (zI 1)]) (rest := [.int (zI (ztop a))]) CX.fix (zd_degree l (f := g1) o N1 1 hP1 hC1 (by omega)) (cwV 1 CX.fix.2.2.2.2 gL_balances_X11_degree rfl rfl rfl (by decide +kernel) ⟨Nat.le_of_ble_eq_true rfl, Nat.le_of_ble_eq_true rfl⟩) (z_preV CX hW (r := (RX11, TX11, 13)) (show g1 o = _ from hP1.c0) rfl) rfl rfl hl.1 rfl (lv_room (Nat.le_of_ble_eq_true rfl)) dL_balances_7 ⟨by show _ ≤ 0; omega, by show _ ≤ 0; omega⟩) (fun zv gn H locs hok7 hW => ?_)
  obtain ⟨ez, hP2, hC2, hF2, hV2, hR2⟩ := hok7
  have ev2 : (zc_degree N1 1).1 = ztop b := nA_degree hz1 (Or.inr rfl)
  rw [ez, ev2]
  clear ez ev2
  obtain ⟨N2, eN2⟩ : ∃ Z9, Z9 = (zc_degree N1 1).2 := ⟨_, rfl⟩
  rw [← eN2] at hP2 hC2 hV2
  clear eN2
  obtain ⟨g2, eg2⟩ : ∃ q, q = gn := ⟨_, rfl⟩
  rw [← eg2] at hW hP2 hF2
  clear eg2
  have hz2 : zP2 N2 p a b := hz1.ve hV2
  have hG2 : zFr f g2 o (o + 681) := zFr.tr2 hG1 hF2
  refine z_imul (z := (ztop a) * (ztop b)) CX dL_balances_10 rfl ?_
  refine lv_istore (lv' := [(4, .int (zI ((ztop a) * (ztop b)))), (0, .ref o), (1, .int (zI p)), (2, .int (zI 0)), (3, .int (zI 1))]) hX0 hB0 dL_balances_11 hl (by decide) rfl (fun ls hl => ?_)
  refine lv_aload_n hX0 hB0 dL_balances_13 rfl (lv_at hl 1 rfl) ?_
  refine lv_iload_n hX0 hB0 dL_balances_14 rfl (lv_at hl 3 rfl) ?_
  refine lv_iload_n hX0 hB0 dL_balances_15 rfl (lv_at hl 4 rfl) ?_
  refine z_calli hW (va_runV (C := RX11) (As := [.int (zI 0), .int (zI 1)]) (rest := []) CX.fix (zd_common l (f := g2) o N2 0 1 hP2 hC2 (by omega) (by omega)) (cwV 2 CX.fix.2.2.2.2 gL_balances_X11_common rfl rfl rfl (by decide +kernel) ⟨Nat.le_of_ble_eq_true rfl, Nat.le_of_ble_eq_true rfl⟩) (z_preV CX hW (r := (RX11, TX11, 13)) (show g2 o = _ from hP2.c0) rfl) rfl rfl hl.1 rfl (lv_room (Nat.le_of_ble_eq_true rfl)) dL_balances_16 ⟨by show _ ≤ 0; omega, by show _ ≤ 0; omega⟩) (fun zv gn H locs hok16 hW => ?_)
  obtain ⟨ez, hP3, hC3, hF3, hV3, hR3⟩ := hok16
  have ev3 : (zc_common N2 0 1).1 = ztop (zcmP a b p) := nA_common hz2 (Or.inl rfl) (Or.inr rfl)
  rw [ez, ev3]
  clear ez ev3
  obtain ⟨N3, eN3⟩ : ∃ Z9, Z9 = (zc_common N2 0 1).2 := ⟨_, rfl⟩
  rw [← eN3] at hP3 hC3 hV3
  clear eN3
  obtain ⟨g3, eg3⟩ : ∃ q, q = gn := ⟨_, rfl⟩
  rw [← eg3] at hW hP3 hF3
  clear eg3
  have hz3 : zP2 N3 p a b := hz2.ve hV3
  have hG3 : zFr f g3 o (o + 681) := zFr.tr2 hG2 hF3
  refine z_if_eq (tgt := 79) CX dL_balances_19 (by decide) (by constructor <;> omega) (fun c_19 => ?_) (fun c_19 => ?_)
  ·
    have c0 : ztop (zcmP a b p) = 0 := by omega
    obtain ⟨T, hT⟩ := kM hpr ha hb hfa hfb ta.1 tb c0
    refine lv_iconst (v := zI 0) hX0 hB0 dL_balances_79 rfl ?_
    refine lv_istore (lv' := [(5, .int (zI 0)), (4, .int (zI ((ztop a) * (ztop b)))), (0, .ref o), (1, .int (zI p)), (2, .int (zI 0)), (3, .int (zI 1))]) hX0 hB0 dL_balances_80 hl (by decide) rfl (fun ls hl => ?_)
    refine lv_iconst (v := zI 0) hX0 hB0 dL_balances_82 rfl ?_
    refine lv_istore (lv' := [(6, .int (zI 0)), (5, .int (zI 0)), (4, .int (zI ((ztop a) * (ztop b)))), (0, .ref o), (1, .int (zI p)), (2, .int (zI 0)), (3, .int (zI 1))]) hX0 hB0 dL_balances_83 hl (by decide) rfl (fun ls hl => ?_)
    refine lv_iconst (v := zI 0) hX0 hB0 dL_balances_85 rfl ?_
    refine lv_istore (lv' := [(7, .int (zI 0)), (6, .int (zI 0)), (5, .int (zI 0)), (4, .int (zI ((ztop a) * (ztop b)))), (0, .ref o), (1, .int (zI p)), (2, .int (zI 0)), (3, .int (zI 1))]) hX0 hB0 dL_balances_86 hl (by decide) rfl (fun ls hl => ?_)
    refine lv_iconst (v := zI 0) hX0 hB0 dL_balances_88 rfl ?_
    refine lv_istore (lv' := [(8, .int (zI 0)), (7, .int (zI 0)), (6, .int (zI 0)), (5, .int (zI 0)), (4, .int (zI ((ztop a) * (ztop b)))), (0, .ref o), (1, .int (zI p)), (2, .int (zI 0)), (3, .int (zI 1))]) hX0 hB0 dL_balances_89 hl (by decide) rfl (fun ls hl => ?_)
    refine lv_iconst (v := zI (-1)) hX0 hB0 dL_balances_91 rfl ?_
    refine lv_istore (lv' := [(9, .int (zI (-1))), (8, .int (zI 0)), (7, .int (zI 0)), (6, .int (zI 0)), (5, .int (zI 0)), (4, .int (zI ((ztop a) * (ztop b)))), (0, .ref o), (1, .int (zI p)), (2, .int (zI 0)), (3, .int (zI 1))]) hX0 hB0 dL_balances_92 hl (by decide) rfl (fun ls hl => ?_)
    refine lv_iconst (v := zI 0) hX0 hB0 dL_balances_94 rfl ?_
    refine lv_istore (lv' := [(10, .int (zI 0)), (9, .int (zI (-1))), (8, .int (zI 0)), (7, .int (zI 0)), (6, .int (zI 0)), (5, .int (zI 0)), (4, .int (zI ((ztop a) * (ztop b)))), (0, .ref o), (1, .int (zI p)), (2, .int (zI 0)), (3, .int (zI 1))]) hX0 hB0 dL_balances_95 hl (by decide) rfl (fun ls hl => ?_)
    have hL97 : ∀ (fu : Nat) (g : Nat → va_E) (N : zCt) (near : Int) (far : Int) (many : Int) (most : Int) (first : Int) (q : Int) (Lx : List Nat), (zCP cI cP cS cZ cM o N g ∧ zCI N ∧ zP2 N p a b ∧ zFr f g o (o + 681) ∧ (0 ≤ q ∧ q ≤ zmany p) ∧ zBI T p q near far many most first ∧ (0 ≤ most ∧ most ≤ 32768) ∧ (0 ≤ many ∧ many ≤ q) ∧ (-1 ≤ first ∧ first ≤ 1000)) → (zmany p - q).toNat < fu → ∀ (H : Heap) (locs : List Loc) (ls : Array Slot), zW D (zT cI cJ cZ cP cS cM) Lx (zQ L sz) st g st.heap H locs → lv_has ls 15 [(0, .ref o), (1, .int (zI p)), (2, .int (zI 0)), (3, .int (zI 1)), (4, .int (zI ((ztop a) * (ztop b)))), (5, .int (zI near)), (6, .int (zI far)), (7, .int (zI many)), (8, .int (zI most)), (9, .int (zI first)), (10, .int (zI q))] → W pg l en ({ frames := 8, cells := 0, slots := 0, locals := 202 } : Room) st mi ag bl mt cd H locs 0 0 Q (F0 mi 97 ls []) := by
      intro fu
      induction fu with
      | zero => intro g N near far many most first q Lx _ hfu; exact absurd hfu (Nat.not_lt_zero _)
      | succ fu ih97 =>
        intro g N near far many most first q Lx hinv97 hfu97 H locs ls hW hl
        obtain ⟨hP, hC, hz, hFr, hq, hBI, hmo, hma, hfi⟩ := hinv97
        refine lv_iload hX0 hB0 dL_balances_97 (lv_at hl 10 rfl) ?_
        refine lv_iload_n hX0 hB0 dL_balances_99 rfl (lv_at hl 1 rfl) ?_
        refine lv_iload_n hX0 hB0 dL_balances_100 rfl (lv_at hl 1 rfl) ?_
        refine z_imul (z := p * p) CX dL_balances_101 rfl ?_
        refine lv_iload_n hX0 hB0 dL_balances_102 rfl (lv_at hl 1 rfl) ?_
        refine z_iadd (z := (p * p) + p) CX dL_balances_103 rfl ?_
        refine lv_iconst (v := zI 1) hX0 hB0 dL_balances_104 rfl ?_
        refine z_iadd (z := ((p * p) + p) + 1) CX dL_balances_105 rfl ?_
        refine z_icmp_ge (tgt := 390) CX dL_balances_106 (by decide) (by constructor <;> omega) (by constructor <;> omega) (fun c_106 => ?_) (fun c_106 => ?_)
        ·
          have eq : q = zmany p := by omega
          rw [eq] at hBI
          obtain ⟨hb1, hb2, hb3, hb4, hb5⟩ := hBI
          rw [show min (zmany p) (p * p) = p * p by omega] at hb1
          have hbd := kM_bd hT
          have hsm := ksm_add T (a := p * p) (by omega) (p + 1).toNat
          rw [show p * p + ((p + 1).toNat : Nat) = zmany p by omega] at hsm
          refine lv_aload_n hX0 hB0 dL_balances_390 rfl (lv_at hl 0 rfl) ?_
          refine lv_iload_n hX0 hB0 dL_balances_391 rfl (lv_at hl 2 rfl) ?_
          refine lv_iload_n hX0 hB0 dL_balances_392 rfl (lv_at hl 3 rfl) ?_
          refine lv_iconst (v := zI (-1)) hX0 hB0 dL_balances_393 rfl ?_
          refine lv_iconst (v := zI 0) hX0 hB0 dL_balances_394 rfl ?_
          refine z_calli hW (va_runV (C := RX11) (As := [.int (zI 0), .int (zI 1), .int (zI (-1)), .int (zI 0)]) (rest := []) CX.fix (zd_meet l (f := g) o N 0 1 (-1) 0 hP hC (by omega) (by omega) (by omega) (by omega)) (cwV 4 CX.fix.2.2.2.2 gL_balances_X11_meet rfl rfl rfl (by decide +kernel) ⟨Nat.le_of_ble_eq_true rfl, Nat.le_of_ble_eq_true rfl⟩) (z_preV CX hW (r := (RX11, TX11, 13)) (show g o = _ from hP.c0) rfl) rfl rfl hl.1 rfl (lv_room (Nat.le_of_ble_eq_true rfl)) dL_balances_395 ⟨by show _ ≤ 0; omega, by show _ ≤ 0; omega⟩) (fun zv gn H locs hok395 hW => ?_)
          obtain ⟨ez, hP4, hC4, hF4, hV4, hR4⟩ := hok395
          have ev4 : (zc_meet N 0 1 (-1) 0).1 = (kcnt T (zmany p).toNat : Int) := (nA_meetN hz (zPr_2 hpr) hT).1
          rw [ez, ev4]
          clear ez ev4
          obtain ⟨N4, eN4⟩ : ∃ Z9, Z9 = (zc_meet N 0 1 (-1) 0).2 := ⟨_, rfl⟩
          rw [← eN4] at hP4 hC4 hV4
          clear eN4
          obtain ⟨g4, eg4⟩ : ∃ q, q = gn := ⟨_, rfl⟩
          rw [← eg4] at hW hP4 hF4
          clear eg4
          have hz4 : zP2 N4 p a b := hz.ve hV4
          have hG4 : zFr f g4 o (o + 681) := zFr.tr2 hFr hF4
          refine lv_iload hX0 hB0 dL_balances_398 (lv_at hl 7 rfl) ?_
          refine z_icmp_ne (tgt := 443) CX dL_balances_400 (by decide) (by constructor <;> omega) (by constructor <;> omega) (fun c_400 => ?_) (fun c_400 => ?_)
          ·
            omega
          ·
            refine lv_aload_n hX0 hB0 dL_balances_403 rfl (lv_at hl 0 rfl) ?_
            refine lv_iload_n hX0 hB0 dL_balances_404 rfl (lv_at hl 2 rfl) ?_
            refine lv_iload_n hX0 hB0 dL_balances_405 rfl (lv_at hl 3 rfl) ?_
            refine lv_iconst (v := zI (-1)) hX0 hB0 dL_balances_406 rfl ?_
            refine lv_iconst (v := zI 1) hX0 hB0 dL_balances_407 rfl ?_
            refine z_calli hW (va_runV (C := RX11) (As := [.int (zI 0), .int (zI 1), .int (zI (-1)), .int (zI 1)]) (rest := []) CX.fix (zd_meet l (f := g4) o N4 0 1 (-1) 1 hP4 hC4 (by omega) (by omega) (by omega) (by omega)) (cwV 4 CX.fix.2.2.2.2 gL_balances_X11_meet rfl rfl rfl (by decide +kernel) ⟨Nat.le_of_ble_eq_true rfl, Nat.le_of_ble_eq_true rfl⟩) (z_preV CX hW (r := (RX11, TX11, 13)) (show g4 o = _ from hP4.c0) rfl) rfl rfl hl.1 rfl (lv_room (Nat.le_of_ble_eq_true rfl)) dL_balances_408 ⟨by show _ ≤ 0; omega, by show _ ≤ 0; omega⟩) (fun zv gn H locs hok408 hW => ?_)
            obtain ⟨ez, hP5, hC5, hF5, hV5, hR5⟩ := hok408
            have ev5 : (zc_meet N4 0 1 (-1) 1).1 = (ksm T 0 (zmany p) : Int) := (nA_meetN hz4 (zPr_2 hpr) hT).2
            rw [ez, ev5]
            clear ez ev5
            obtain ⟨N5, eN5⟩ : ∃ Z9, Z9 = (zc_meet N4 0 1 (-1) 1).2 := ⟨_, rfl⟩
            rw [← eN5] at hP5 hC5 hV5
            clear eN5
            obtain ⟨g5, eg5⟩ : ∃ q, q = gn := ⟨_, rfl⟩
            rw [← eg5] at hW hP5 hF5
            clear eg5
            have hz5 : zP2 N5 p a b := hz4.ve hV5
            have hG5 : zFr f g5 o (o + 681) := zFr.tr2 hG4 hF5
            refine lv_iload hX0 hB0 dL_balances_411 (lv_at hl 5 rfl) ?_
            refine lv_iload hX0 hB0 dL_balances_413 (lv_at hl 6 rfl) ?_
            refine z_iadd (z := near + far) CX dL_balances_415 rfl ?_
            refine z_icmp_ne (tgt := 443) CX dL_balances_416 (by decide) (by constructor <;> omega) (by constructor <;> omega) (fun c_416 => ?_) (fun c_416 => ?_)
            ·
              omega
            ·
              refine lv_aload_n hX0 hB0 dL_balances_419 rfl (lv_at hl 0 rfl) ?_
              refine lv_iload_n hX0 hB0 dL_balances_420 rfl (lv_at hl 2 rfl) ?_
              refine lv_iload_n hX0 hB0 dL_balances_421 rfl (lv_at hl 3 rfl) ?_
              refine lv_iconst (v := zI 0) hX0 hB0 dL_balances_422 rfl ?_
              refine z_calli hW (va_runV (C := RX11) (As := [.int (zI 0), .int (zI 1), .int (zI 0)]) (rest := []) CX.fix (zd_most l (f := g5) o N5 0 1 0 hP5 hC5 (by omega) (by omega) (by omega)) (cwV 3 CX.fix.2.2.2.2 gL_balances_X11_most rfl rfl rfl (by decide +kernel) ⟨Nat.le_of_ble_eq_true rfl, Nat.le_of_ble_eq_true rfl⟩) (z_preV CX hW (r := (RX11, TX11, 13)) (show g5 o = _ from hP5.c0) rfl) rfl rfl hl.1 rfl (lv_room (Nat.le_of_ble_eq_true rfl)) dL_balances_423 ⟨by show _ ≤ 0; omega, by show _ ≤ 0; omega⟩) (fun zv gn H locs hok423 hW => ?_)
              obtain ⟨ez, hP6, hC6, hF6, hV6, hR6⟩ := hok423
              have ev6 : (zc_most N5 0 1 0).1 = (kmx T (zmany p).toNat).1 := (nA_most hz5 (zPr_2 hpr) hT).1
              rw [ez, ev6]
              clear ez ev6
              obtain ⟨N6, eN6⟩ : ∃ Z9, Z9 = (zc_most N5 0 1 0).2 := ⟨_, rfl⟩
              rw [← eN6] at hP6 hC6 hV6
              clear eN6
              obtain ⟨g6, eg6⟩ : ∃ q, q = gn := ⟨_, rfl⟩
              rw [← eg6] at hW hP6 hF6
              clear eg6
              have hz6 : zP2 N6 p a b := hz5.ve hV6
              have hG6 : zFr f g6 o (o + 681) := zFr.tr2 hG5 hF6
              refine lv_iload hX0 hB0 dL_balances_426 (lv_at hl 8 rfl) ?_
              refine z_icmp_ne (tgt := 443) CX dL_balances_428 (by decide) (by constructor <;> omega) (by constructor <;> omega) (fun c_428 => ?_) (fun c_428 => ?_)
              ·
                omega
              ·
                refine lv_aload_n hX0 hB0 dL_balances_431 rfl (lv_at hl 0 rfl) ?_
                refine lv_iload_n hX0 hB0 dL_balances_432 rfl (lv_at hl 2 rfl) ?_
                refine lv_iload_n hX0 hB0 dL_balances_433 rfl (lv_at hl 3 rfl) ?_
                refine lv_iconst (v := zI 1) hX0 hB0 dL_balances_434 rfl ?_
                refine z_calli hW (va_runV (C := RX11) (As := [.int (zI 0), .int (zI 1), .int (zI 1)]) (rest := []) CX.fix (zd_most l (f := g6) o N6 0 1 1 hP6 hC6 (by omega) (by omega) (by omega)) (cwV 3 CX.fix.2.2.2.2 gL_balances_X11_most rfl rfl rfl (by decide +kernel) ⟨Nat.le_of_ble_eq_true rfl, Nat.le_of_ble_eq_true rfl⟩) (z_preV CX hW (r := (RX11, TX11, 13)) (show g6 o = _ from hP6.c0) rfl) rfl rfl hl.1 rfl (lv_room (Nat.le_of_ble_eq_true rfl)) dL_balances_435 ⟨by show _ ≤ 0; omega, by show _ ≤ 0; omega⟩) (fun zv gn H locs hok435 hW => ?_)
                obtain ⟨ez, hP7, hC7, hF7, hV7, hR7⟩ := hok435
                have ev7 : (zc_most N6 0 1 1).1 = (kmx T (zmany p).toNat).2 := (nA_most hz6 (zPr_2 hpr) hT).2
                rw [ez, ev7]
                clear ez ev7
                obtain ⟨N7, eN7⟩ : ∃ Z9, Z9 = (zc_most N6 0 1 1).2 := ⟨_, rfl⟩
                rw [← eN7] at hP7 hC7 hV7
                clear eN7
                obtain ⟨g7, eg7⟩ : ∃ q, q = gn := ⟨_, rfl⟩
                rw [← eg7] at hW hP7 hF7
                clear eg7
                have hz7 : zP2 N7 p a b := hz6.ve hV7
                have hG7 : zFr f g7 o (o + 681) := zFr.tr2 hG6 hF7
                refine lv_iload hX0 hB0 dL_balances_438 (lv_at hl 9 rfl) ?_
                refine z_icmp_eq (tgt := 445) CX dL_balances_440 (by decide) (by constructor <;> omega) (by constructor <;> omega) (fun c_440 => ?_) (fun c_440 => ?_)
                ·
                  refine lv_aload_n hX0 hB0 dL_balances_445 rfl (lv_at hl 0 rfl) ?_
                  refine lv_iload_n hX0 hB0 dL_balances_446 rfl (lv_at hl 2 rfl) ?_
                  refine lv_iload_n hX0 hB0 dL_balances_447 rfl (lv_at hl 3 rfl) ?_
                  refine lv_iconst (v := zI 1) hX0 hB0 dL_balances_448 rfl ?_
                  refine z_calli hW (va_runV (C := RX11) (As := [.int (zI 0), .int (zI 1), .int (zI 1)]) (rest := []) CX.fix (zd_total l (f := g7) o N7 0 1 1 hP7 hC7 (by omega) (by omega) (by omega) (hz7.tp (by omega) (by omega))) (cwV 3 CX.fix.2.2.2.2 gL_balances_X11_total rfl rfl rfl (by decide +kernel) ⟨Nat.le_of_ble_eq_true rfl, Nat.le_of_ble_eq_true rfl⟩) (z_preV CX hW (r := (RX11, TX11, 13)) (show g7 o = _ from hP7.c0) rfl) rfl rfl hl.1 rfl (lv_room (Nat.le_of_ble_eq_true rfl)) dL_balances_449 ⟨by show _ ≤ 0; omega, by show _ ≤ 0; omega⟩) (fun zv gn H locs hok449 hW => ?_)
                  obtain ⟨ez, hP8, hC8, hF8, hV8, hR8⟩ := hok449
                  have ev8 : (zc_total N7 0 1 1).1 = znrP a b p := (nA_total hz7 (zPr_2 hpr) c0 hT).2.1
                  rw [ez, ev8]
                  clear ez ev8
                  obtain ⟨N8, eN8⟩ : ∃ Z9, Z9 = (zc_total N7 0 1 1).2 := ⟨_, rfl⟩
                  rw [← eN8] at hP8 hC8 hV8
                  clear eN8
                  obtain ⟨g8, eg8⟩ : ∃ q, q = gn := ⟨_, rfl⟩
                  rw [← eg8] at hW hP8 hF8
                  clear eg8
                  have hz8 : zP2 N8 p a b := hz7.ve hV8
                  have hG8 : zFr f g8 o (o + 681) := zFr.tr2 hG7 hF8
                  refine lv_istore (lv' := [(10, .int (zI (znrP a b p))), (0, .ref o), (1, .int (zI p)), (2, .int (zI 0)), (3, .int (zI 1)), (4, .int (zI ((ztop a) * (ztop b)))), (5, .int (zI near)), (6, .int (zI far)), (7, .int (zI many)), (8, .int (zI most)), (9, .int (zI first))]) hX0 hB0 dL_balances_452 hl (by decide) rfl (fun ls hl => ?_)
                  refine lv_aload_n hX0 hB0 dL_balances_454 rfl (lv_at hl 1 rfl) ?_
                  refine lv_iload_n hX0 hB0 dL_balances_455 rfl (lv_at hl 3 rfl) ?_
                  refine lv_iload_n hX0 hB0 dL_balances_456 rfl (lv_at hl 4 rfl) ?_
                  refine lv_iconst (v := zI 0) hX0 hB0 dL_balances_457 rfl ?_
                  refine z_calli hW (va_runV (C := RX11) (As := [.int (zI 0), .int (zI 1), .int (zI 0)]) (rest := []) CX.fix (zd_total l (f := g8) o N8 0 1 0 hP8 hC8 (by omega) (by omega) (by omega) (hz8.tp (by omega) (by omega))) (cwV 3 CX.fix.2.2.2.2 gL_balances_X11_total rfl rfl rfl (by decide +kernel) ⟨Nat.le_of_ble_eq_true rfl, Nat.le_of_ble_eq_true rfl⟩) (z_preV CX hW (r := (RX11, TX11, 13)) (show g8 o = _ from hP8.c0) rfl) rfl rfl hl.1 rfl (lv_room (Nat.le_of_ble_eq_true rfl)) dL_balances_458 ⟨by show _ ≤ 0; omega, by show _ ≤ 0; omega⟩) (fun zv gn H locs hok458 hW => ?_)
                  obtain ⟨ez, hP9, hC9, hF9, hV9, hR9⟩ := hok458
                  have ev9 : (zc_total N8 0 1 0).1 = ztop a * ztop b := (nA_total hz8 (zPr_2 hpr) c0 hT).1
                  rw [ez, ev9]
                  clear ez ev9
                  obtain ⟨N9, eN9⟩ : ∃ Z9, Z9 = (zc_total N8 0 1 0).2 := ⟨_, rfl⟩
                  rw [← eN9] at hP9 hC9 hV9
                  clear eN9
                  obtain ⟨g9, eg9⟩ : ∃ q, q = gn := ⟨_, rfl⟩
                  rw [← eg9] at hW hP9 hF9
                  clear eg9
                  have hz9 : zP2 N9 p a b := hz8.ve hV9
                  have hG9 : zFr f g9 o (o + 681) := zFr.tr2 hG8 hF9
                  refine lv_iload hX0 hB0 dL_balances_461 (lv_at hl 5 rfl) ?_
                  refine z_icmp_ne (tgt := 550) CX dL_balances_463 (by decide) (by constructor <;> omega) (by constructor <;> omega) (fun c_463 => ?_) (fun c_463 => ?_)
                  ·
                    omega
                  ·
                    refine lv_iload hX0 hB0 dL_balances_466 (lv_at hl 0 rfl) ?_
                    refine lv_aload_n hX0 hB0 dL_balances_468 rfl (lv_at hl 1 rfl) ?_
                    refine lv_iload_n hX0 hB0 dL_balances_469 rfl (lv_at hl 3 rfl) ?_
                    refine lv_iload_n hX0 hB0 dL_balances_470 rfl (lv_at hl 4 rfl) ?_
                    refine lv_iconst (v := zI 2) hX0 hB0 dL_balances_471 rfl ?_
                    refine z_calli hW (va_runV (C := RX11) (As := [.int (zI 0), .int (zI 1), .int (zI 2)]) (rest := [.int (zI (znrP a b p))]) CX.fix (zd_total l (f := g9) o N9 0 1 2 hP9 hC9 (by omega) (by omega) (by omega) (hz9.tp (by omega) (by omega))) (cwV 3 CX.fix.2.2.2.2 gL_balances_X11_total rfl rfl rfl (by decide +kernel) ⟨Nat.le_of_ble_eq_true rfl, Nat.le_of_ble_eq_true rfl⟩) (z_preV CX hW (r := (RX11, TX11, 13)) (show g9 o = _ from hP9.c0) rfl) rfl rfl hl.1 rfl (lv_room (Nat.le_of_ble_eq_true rfl)) dL_balances_472 ⟨by show _ ≤ 0; omega, by show _ ≤ 0; omega⟩) (fun zv gn H locs hok472 hW => ?_)
                    obtain ⟨ez, hP10, hC10, hF10, hV10, hR10⟩ := hok472
                    have ev10 : (zc_total N9 0 1 2).1 = ztop a * ztop b - znrP a b p := (nA_total hz9 (zPr_2 hpr) c0 hT).2.2.1
                    rw [ez, ev10]
                    clear ez ev10
                    obtain ⟨N10, eN10⟩ : ∃ Z9, Z9 = (zc_total N9 0 1 2).2 := ⟨_, rfl⟩
                    rw [← eN10] at hP10 hC10 hV10
                    clear eN10
                    obtain ⟨g10, eg10⟩ : ∃ q, q = gn := ⟨_, rfl⟩
                    rw [← eg10] at hW hP10 hF10
                    clear eg10
                    have hz10 : zP2 N10 p a b := hz9.ve hV10
                    have hG10 : zFr f g10 o (o + 681) := zFr.tr2 hG9 hF10
                    refine z_iadd (z := (znrP a b p) + (ztop a * ztop b - znrP a b p)) CX dL_balances_475 rfl ?_
                    refine lv_iload hX0 hB0 dL_balances_476 (lv_at hl 5 rfl) ?_
                    refine z_icmp_ne (tgt := 550) CX dL_balances_478 (by decide) (by constructor <;> omega) (by constructor <;> omega) (fun c_478 => ?_) (fun c_478 => ?_)
                    ·
                      omega
                    ·
                      refine lv_iload hX0 hB0 dL_balances_481 (lv_at hl 6 rfl) ?_
                      refine lv_iload hX0 hB0 dL_balances_483 (lv_at hl 0 rfl) ?_
                      refine z_icmp_gt (tgt := 550) CX dL_balances_485 (by decide) (by constructor <;> omega) (by constructor <;> omega) (fun c_485 => ?_) (fun c_485 => ?_)
                      ·
                        omega
                      ·
                        refine lv_iload hX0 hB0 dL_balances_488 (lv_at hl 7 rfl) ?_
                        refine lv_iload hX0 hB0 dL_balances_490 (lv_at hl 5 rfl) ?_
                        refine lv_iload hX0 hB0 dL_balances_492 (lv_at hl 0 rfl) ?_
                        refine z_isub (z := ((ztop a) * (ztop b)) - (znrP a b p)) CX dL_balances_494 rfl ?_
                        refine z_icmp_gt (tgt := 550) CX dL_balances_495 (by decide) (by constructor <;> omega) (by constructor <;> omega) (fun c_495 => ?_) (fun c_495 => ?_)
                        ·
                          omega
                        ·
                          refine lv_aload_n hX0 hB0 dL_balances_498 rfl (lv_at hl 1 rfl) ?_
                          refine lv_iload_n hX0 hB0 dL_balances_499 rfl (lv_at hl 3 rfl) ?_
                          refine lv_iload_n hX0 hB0 dL_balances_500 rfl (lv_at hl 4 rfl) ?_
                          refine lv_iconst (v := zI 3) hX0 hB0 dL_balances_501 rfl ?_
                          refine z_calli hW (va_runV (C := RX11) (As := [.int (zI 0), .int (zI 1), .int (zI 3)]) (rest := []) CX.fix (zd_total l (f := g10) o N10 0 1 3 hP10 hC10 (by omega) (by omega) (by omega) (hz10.tp (by omega) (by omega))) (cwV 3 CX.fix.2.2.2.2 gL_balances_X11_total rfl rfl rfl (by decide +kernel) ⟨Nat.le_of_ble_eq_true rfl, Nat.le_of_ble_eq_true rfl⟩) (z_preV CX hW (r := (RX11, TX11, 13)) (show g10 o = _ from hP10.c0) rfl) rfl rfl hl.1 rfl (lv_room (Nat.le_of_ble_eq_true rfl)) dL_balances_502 ⟨by show _ ≤ 0; omega, by show _ ≤ 0; omega⟩) (fun zv gn H locs hok502 hW => ?_)
                          obtain ⟨ez, hP11, hC11, hF11, hV11, hR11⟩ := hok502
                          have ev11 : (zc_total N10 0 1 3).1 = (ksm T 0 (p * p) : Int) := (nA_total hz10 (zPr_2 hpr) c0 hT).2.2.2.1
                          rw [ez, ev11]
                          clear ez ev11
                          obtain ⟨N11, eN11⟩ : ∃ Z9, Z9 = (zc_total N10 0 1 3).2 := ⟨_, rfl⟩
                          rw [← eN11] at hP11 hC11 hV11
                          clear eN11
                          obtain ⟨g11, eg11⟩ : ∃ q, q = gn := ⟨_, rfl⟩
                          rw [← eg11] at hW hP11 hF11
                          clear eg11
                          have hz11 : zP2 N11 p a b := hz10.ve hV11
                          have hG11 : zFr f g11 o (o + 681) := zFr.tr2 hG10 hF11
                          refine lv_iload hX0 hB0 dL_balances_505 (lv_at hl 6 rfl) ?_
                          refine z_icmp_ne (tgt := 550) CX dL_balances_507 (by decide) (by constructor <;> omega) (by constructor <;> omega) (fun c_507 => ?_) (fun c_507 => ?_)
                          ·
                            omega
                          ·
                            refine lv_aload_n hX0 hB0 dL_balances_510 rfl (lv_at hl 1 rfl) ?_
                            refine lv_iload_n hX0 hB0 dL_balances_511 rfl (lv_at hl 3 rfl) ?_
                            refine lv_iload_n hX0 hB0 dL_balances_512 rfl (lv_at hl 4 rfl) ?_
                            refine lv_iconst (v := zI 4) hX0 hB0 dL_balances_513 rfl ?_
                            refine z_calli hW (va_runV (C := RX11) (As := [.int (zI 0), .int (zI 1), .int (zI 4)]) (rest := []) CX.fix (zd_total l (f := g11) o N11 0 1 4 hP11 hC11 (by omega) (by omega) (by omega) (hz11.tp (by omega) (by omega))) (cwV 3 CX.fix.2.2.2.2 gL_balances_X11_total rfl rfl rfl (by decide +kernel) ⟨Nat.le_of_ble_eq_true rfl, Nat.le_of_ble_eq_true rfl⟩) (z_preV CX hW (r := (RX11, TX11, 13)) (show g11 o = _ from hP11.c0) rfl) rfl rfl hl.1 rfl (lv_room (Nat.le_of_ble_eq_true rfl)) dL_balances_514 ⟨by show _ ≤ 0; omega, by show _ ≤ 0; omega⟩) (fun zv gn H locs hok514 hW => ?_)
                            obtain ⟨ez, hP12, hC12, hF12, hV12, hR12⟩ := hok514
                            have ev12 : (zc_total N11 0 1 4).1 = (ksm T (p * p) (zmany p) : Int) := (nA_total hz11 (zPr_2 hpr) c0 hT).2.2.2.2
                            rw [ez, ev12]
                            clear ez ev12
                            obtain ⟨N12, eN12⟩ : ∃ Z9, Z9 = (zc_total N11 0 1 4).2 := ⟨_, rfl⟩
                            rw [← eN12] at hP12 hC12 hV12
                            clear eN12
                            obtain ⟨g12, eg12⟩ : ∃ q, q = gn := ⟨_, rfl⟩
                            rw [← eg12] at hW hP12 hF12
                            clear eg12
                            have hz12 : zP2 N12 p a b := hz11.ve hV12
                            have hG12 : zFr f g12 o (o + 681) := zFr.tr2 hG11 hF12
                            refine lv_iload hX0 hB0 dL_balances_517 (lv_at hl 7 rfl) ?_
                            refine z_icmp_ne (tgt := 550) CX dL_balances_519 (by decide) (by constructor <;> omega) (by constructor <;> omega) (fun c_519 => ?_) (fun c_519 => ?_)
                            ·
                              omega
                            ·
                              refine lv_aload_n hX0 hB0 dL_balances_522 rfl (lv_at hl 1 rfl) ?_
                              refine lv_iload_n hX0 hB0 dL_balances_523 rfl (lv_at hl 3 rfl) ?_
                              refine lv_iload_n hX0 hB0 dL_balances_524 rfl (lv_at hl 4 rfl) ?_
                              refine lv_bipush (v := zI 24) hX0 hB0 dL_balances_525 (by decide) ?_
                              refine z_calli hW (va_runV (C := RX11) (As := [.int (zI 0), .int (zI 1), .int (zI 24)]) (rest := []) CX.fix (zd_parts l (f := g12) o N12 0 1 24 hP12 hC12 (by omega) (by omega) (by omega)) (cwV 3 CX.fix.2.2.2.2 gL_balances_X11_parts rfl rfl rfl (by decide +kernel) ⟨Nat.le_of_ble_eq_true rfl, Nat.le_of_ble_eq_true rfl⟩) (z_preV CX hW (r := (RX11, TX11, 13)) (show g12 o = _ from hP12.c0) rfl) rfl rfl hl.1 rfl (lv_room (Nat.le_of_ble_eq_true rfl)) dL_balances_527 ⟨by show _ ≤ 0; omega, by show _ ≤ 0; omega⟩) (fun zv gn H locs hok527 hW => ?_)
                              obtain ⟨ez, hP13, hC13, hF13, hV13, hR13⟩ := hok527
                              have ev13 : (zc_parts N12 0 1 24).1 = ztop a * ztop b := (nA_parts hz12 c0 (by omega) (by omega)).1
                              rw [ez, ev13]
                              clear ez ev13
                              obtain ⟨N13, eN13⟩ : ∃ Z9, Z9 = (zc_parts N12 0 1 24).2 := ⟨_, rfl⟩
                              rw [← eN13] at hP13 hC13 hV13
                              clear eN13
                              obtain ⟨g13, eg13⟩ : ∃ q, q = gn := ⟨_, rfl⟩
                              rw [← eg13] at hW hP13 hF13
                              clear eg13
                              have hz13 : zP2 N13 p a b := hz12.ve hV13
                              have hG13 : zFr f g13 o (o + 681) := zFr.tr2 hG12 hF13
                              refine lv_iload hX0 hB0 dL_balances_530 (lv_at hl 5 rfl) ?_
                              refine z_icmp_ne (tgt := 550) CX dL_balances_532 (by decide) (by constructor <;> omega) (by constructor <;> omega) (fun c_532 => ?_) (fun c_532 => ?_)
                              ·
                                omega
                              ·
                                refine lv_aload_n hX0 hB0 dL_balances_535 rfl (lv_at hl 1 rfl) ?_
                                refine lv_iload_n hX0 hB0 dL_balances_536 rfl (lv_at hl 3 rfl) ?_
                                refine lv_iload_n hX0 hB0 dL_balances_537 rfl (lv_at hl 4 rfl) ?_
                                refine lv_iconst (v := zI 0) hX0 hB0 dL_balances_538 rfl ?_
                                refine z_calli hW (va_runV (C := RX11) (As := [.int (zI 0), .int (zI 1), .int (zI 0)]) (rest := []) CX.fix (zd_parts l (f := g13) o N13 0 1 0 hP13 hC13 (by omega) (by omega) (by omega)) (cwV 3 CX.fix.2.2.2.2 gL_balances_X11_parts rfl rfl rfl (by decide +kernel) ⟨Nat.le_of_ble_eq_true rfl, Nat.le_of_ble_eq_true rfl⟩) (z_preV CX hW (r := (RX11, TX11, 13)) (show g13 o = _ from hP13.c0) rfl) rfl rfl hl.1 rfl (lv_room (Nat.le_of_ble_eq_true rfl)) dL_balances_539 ⟨by show _ ≤ 0; omega, by show _ ≤ 0; omega⟩) (fun zv gn H locs hok539 hW => ?_)
                                obtain ⟨ez, hP14, hC14, hF14, hV14, hR14⟩ := hok539
                                have ev14 : (zc_parts N13 0 1 0).1 = 1 := (nA_parts hz13 c0 (by omega) (by omega)).2
                                rw [ez, ev14]
                                clear ez ev14
                                obtain ⟨N14, eN14⟩ : ∃ Z9, Z9 = (zc_parts N13 0 1 0).2 := ⟨_, rfl⟩
                                rw [← eN14] at hP14 hC14 hV14
                                clear eN14
                                obtain ⟨g14, eg14⟩ : ∃ q, q = gn := ⟨_, rfl⟩
                                rw [← eg14] at hW hP14 hF14
                                clear eg14
                                have hz14 : zP2 N14 p a b := hz13.ve hV14
                                have hG14 : zFr f g14 o (o + 681) := zFr.tr2 hG13 hF14
                                refine lv_iconst (v := zI 1) hX0 hB0 dL_balances_542 rfl ?_
                                refine z_icmp_ne (tgt := 550) CX dL_balances_543 (by decide) (by constructor <;> omega) (by constructor <;> omega) (fun c_543 => ?_) (fun c_543 => ?_)
                                ·
                                  omega
                                ·
                                  refine lv_iconst (v := zI 1) hX0 hB0 dL_balances_546 rfl ?_
                                  refine lv_goto (tgt := 551) hX0 hB0 dL_balances_547 (by decide) ?_
                                  rw [← hQ]
                                  refine W.widen (k := 0) (n := 0) (by omega) (by omega) ?_
                                  refine zy_iret (z := 1) CX hW ?_ rfl dL_balances_551
                                  exact ⟨rfl, N14, hP14, hC14, hz14, hG14⟩
                ·
                  omega
        ·
          have hzq : zpt q p := ⟨by omega, by omega⟩
          have hon := (hT.1 q hzq).1
          have hor := (hT.1 q hzq).2.1
          have hrr := kRr_ok hpr ha hb (by omega) (by omega) hT q
          have hlm := Int.mul_nonneg (zleast_rng (zlook a p (zpx q p) (zpy q p) (zpz q p))).1 (zleast_rng (zlook b p (zpx q p) (zpy q p) (zpz q p))).1
          refine lv_aload_n hX0 hB0 dL_balances_109 rfl (lv_at hl 0 rfl) ?_
          refine lv_iload_n hX0 hB0 dL_balances_110 rfl (lv_at hl 2 rfl) ?_
          refine lv_iload_n hX0 hB0 dL_balances_111 rfl (lv_at hl 3 rfl) ?_
          refine lv_iload hX0 hB0 dL_balances_112 (lv_at hl 10 rfl) ?_
          refine z_calli hW (va_runV (C := RX11) (As := [.int (zI 0), .int (zI 1), .int (zI q)]) (rest := []) CX.fix (zd_times l (f := g) o N 0 1 q hP hC (by omega) (by omega) (by omega)) (cwV 3 CX.fix.2.2.2.2 gL_balances_X11_times rfl rfl rfl (by decide +kernel) ⟨Nat.le_of_ble_eq_true rfl, Nat.le_of_ble_eq_true rfl⟩) (z_preV CX hW (r := (RX11, TX11, 13)) (show g o = _ from hP.c0) rfl) rfl rfl hl.1 rfl (lv_room (Nat.le_of_ble_eq_true rfl)) dL_balances_114 ⟨by show _ ≤ 0; omega, by show _ ≤ 0; omega⟩) (fun zv gn H locs hok114 hW => ?_)
          obtain ⟨ez, hP15, hC15, hF15, hV15, hR15⟩ := hok114
          have ev15 : (zc_times N 0 1 q).1 = (T q : Int) := nA_times01 hz (zPr_2 hpr) hT hzq
          rw [ez, ev15] at hR15
          rw [ez, ev15]
          clear ez ev15
          obtain ⟨N15, eN15⟩ : ∃ Z9, Z9 = (zc_times N 0 1 q).2 := ⟨_, rfl⟩
          rw [← eN15] at hP15 hC15 hV15
          clear eN15
          obtain ⟨g15, eg15⟩ : ∃ q, q = gn := ⟨_, rfl⟩
          rw [← eg15] at hW hP15 hF15
          clear eg15
          have hz15 : zP2 N15 p a b := hz.ve hV15
          have hG15 : zFr f g15 o (o + 681) := zFr.tr2 hFr hF15
          refine lv_istore (lv' := [(11, .int (zI ((T q : Int)))), (0, .ref o), (1, .int (zI p)), (2, .int (zI 0)), (3, .int (zI 1)), (4, .int (zI ((ztop a) * (ztop b)))), (5, .int (zI near)), (6, .int (zI far)), (7, .int (zI many)), (8, .int (zI most)), (9, .int (zI first)), (10, .int (zI q))]) hX0 hB0 dL_balances_117 hl (by decide) rfl (fun ls hl => ?_)
          refine lv_aload_n hX0 hB0 dL_balances_119 rfl (lv_at hl 1 rfl) ?_
          refine lv_iload_n hX0 hB0 dL_balances_120 rfl (lv_at hl 3 rfl) ?_
          refine lv_iload hX0 hB0 dL_balances_121 (lv_at hl 11 rfl) ?_
          refine z_calli hW (va_runV (C := RX11) (As := [.int (zI 0), .int (zI q)]) (rest := []) CX.fix (zd_value l (f := g15) o N15 0 q hP15 hC15 (by omega) (by omega)) (cwV 2 CX.fix.2.2.2.2 gL_balances_X11_value rfl rfl rfl (by decide +kernel) ⟨Nat.le_of_ble_eq_true rfl, Nat.le_of_ble_eq_true rfl⟩) (z_preV CX hW (r := (RX11, TX11, 13)) (show g15 o = _ from hP15.c0) rfl) rfl rfl hl.1 rfl (lv_room (Nat.le_of_ble_eq_true rfl)) dL_balances_123 ⟨by show _ ≤ 0; omega, by show _ ≤ 0; omega⟩) (fun zv gn H locs hok123 hW => ?_)
          obtain ⟨ez, hP16, hC16, hF16, hV16, hR16⟩ := hok123
          have ev16 : (zc_value N15 0 q).1 = zval a (zpx q p) (zpy q p) (zpz q p) p := nA_value hz15 (zPr_2 hpr) (Or.inl rfl) hzq
          rw [ez, ev16] at hR16
          rw [ez, ev16]
          clear ez ev16
          obtain ⟨N16, eN16⟩ : ∃ Z9, Z9 = (zc_value N15 0 q).2 := ⟨_, rfl⟩
          rw [← eN16] at hP16 hC16 hV16
          clear eN16
          obtain ⟨g16, eg16⟩ : ∃ q, q = gn := ⟨_, rfl⟩
          rw [← eg16] at hW hP16 hF16
          clear eg16
          have hz16 : zP2 N16 p a b := hz15.ve hV16
          have hG16 : zFr f g16 o (o + 681) := zFr.tr2 hG15 hF16
          refine z_if_ne (tgt := 143) CX dL_balances_126 (by decide) (by constructor <;> omega) (fun c_126 => ?_) (fun c_126 => ?_)
          ·
            refine lv_iconst (v := zI 0) hX0 hB0 dL_balances_143 rfl ?_
            refine lv_istore (lv' := [(12, .int (zI 0)), (11, .int (zI ((T q : Int)))), (0, .ref o), (1, .int (zI p)), (2, .int (zI 0)), (3, .int (zI 1)), (4, .int (zI ((ztop a) * (ztop b)))), (5, .int (zI near)), (6, .int (zI far)), (7, .int (zI many)), (8, .int (zI most)), (9, .int (zI first)), (10, .int (zI q))]) hX0 hB0 dL_balances_144 hl (by decide) rfl (fun ls hl => ?_)
            refine lv_iload hX0 hB0 dL_balances_146 (lv_at hl 1 rfl) ?_
            refine z_if_lt (tgt := 199) CX dL_balances_148 (by decide) (by constructor <;> omega) (fun c_148 => ?_) (fun c_148 => ?_)
            ·
              omega
            ·
              refine lv_iload hX0 hB0 dL_balances_151 (lv_at hl 0 rfl) ?_
              refine lv_iload hX0 hB0 dL_balances_153 (lv_at hl 1 rfl) ?_
              refine z_if_le (tgt := 162) CX dL_balances_155 (by decide) (by constructor <;> omega) (fun c_155 => ?_) (fun c_155 => ?_)
              ·
                refine lv_iconst (v := zI 0) hX0 hB0 dL_balances_162 rfl ?_
                refine z_icmp_ne (tgt := 199) CX dL_balances_163 (by decide) (by constructor <;> omega) (by constructor <;> omega) (fun c_163 => ?_) (fun c_163 => ?_)
                ·
                  omega
                ·
                  refine lv_iload hX0 hB0 dL_balances_166 (lv_at hl 1 rfl) ?_
                  refine lv_aload_n hX0 hB0 dL_balances_168 rfl (lv_at hl 2 rfl) ?_
                  refine lv_iload_n hX0 hB0 dL_balances_169 rfl (lv_at hl 4 rfl) ?_
                  refine lv_iload hX0 hB0 dL_balances_170 (lv_at hl 12 rfl) ?_
                  refine z_calli hW (va_runV (C := RX11) (As := [.int (zI 0), .int (zI q)]) (rest := [.int (zI ((T q : Int)))]) CX.fix (zd_order l (f := g16) o N16 0 q hP16 hC16 (by omega) (by omega)) (cwV 2 CX.fix.2.2.2.2 gL_balances_X11_order rfl rfl rfl (by decide +kernel) ⟨Nat.le_of_ble_eq_true rfl, Nat.le_of_ble_eq_true rfl⟩) (z_preV CX hW (r := (RX11, TX11, 13)) (show g16 o = _ from hP16.c0) rfl) rfl rfl hl.1 rfl (lv_room (Nat.le_of_ble_eq_true rfl)) dL_balances_172 ⟨by show _ ≤ 0; omega, by show _ ≤ 0; omega⟩) (fun zv gn H locs hok172 hW => ?_)
                  obtain ⟨ez, hP17, hC17, hF17, hV17, hR17⟩ := hok172
                  have ev17 : (zc_order N16 0 q).1 = zleast (zlook a p (zpx q p) (zpy q p) (zpz q p)) := nA_order hz16 (zPr_2 hpr) (Or.inl rfl) hzq
                  rw [ez, ev17]
                  clear ez ev17
                  obtain ⟨N17, eN17⟩ : ∃ Z9, Z9 = (zc_order N16 0 q).2 := ⟨_, rfl⟩
                  rw [← eN17] at hP17 hC17 hV17
                  clear eN17
                  obtain ⟨g17, eg17⟩ : ∃ q, q = gn := ⟨_, rfl⟩
                  rw [← eg17] at hW hP17 hF17
                  clear eg17
                  have hz17 : zP2 N17 p a b := hz16.ve hV17
                  have hG17 : zFr f g17 o (o + 681) := zFr.tr2 hG16 hF17
                  refine lv_aload_n hX0 hB0 dL_balances_175 rfl (lv_at hl 2 rfl) ?_
                  refine lv_iload_n hX0 hB0 dL_balances_176 rfl (lv_at hl 5 rfl) ?_
                  refine lv_iload hX0 hB0 dL_balances_177 (lv_at hl 12 rfl) ?_
                  refine z_calli hW (va_runV (C := RX11) (As := [.int (zI 1), .int (zI q)]) (rest := [.int (zI (zleast (zlook a p (zpx q p) (zpy q p) (zpz q p)))), .int (zI ((T q : Int)))]) CX.fix (zd_order l (f := g17) o N17 1 q hP17 hC17 (by omega) (by omega)) (cwV 2 CX.fix.2.2.2.2 gL_balances_X11_order rfl rfl rfl (by decide +kernel) ⟨Nat.le_of_ble_eq_true rfl, Nat.le_of_ble_eq_true rfl⟩) (z_preV CX hW (r := (RX11, TX11, 13)) (show g17 o = _ from hP17.c0) rfl) rfl rfl hl.1 rfl (lv_room (Nat.le_of_ble_eq_true rfl)) dL_balances_179 ⟨by show _ ≤ 0; omega, by show _ ≤ 0; omega⟩) (fun zv gn H locs hok179 hW => ?_)
                  obtain ⟨ez, hP18, hC18, hF18, hV18, hR18⟩ := hok179
                  have ev18 : (zc_order N17 1 q).1 = zleast (zlook b p (zpx q p) (zpy q p) (zpz q p)) := nA_order hz17 (zPr_2 hpr) (Or.inr rfl) hzq
                  rw [ez, ev18]
                  clear ez ev18
                  obtain ⟨N18, eN18⟩ : ∃ Z9, Z9 = (zc_order N17 1 q).2 := ⟨_, rfl⟩
                  rw [← eN18] at hP18 hC18 hV18
                  clear eN18
                  obtain ⟨g18, eg18⟩ : ∃ q, q = gn := ⟨_, rfl⟩
                  rw [← eg18] at hW hP18 hF18
                  clear eg18
                  have hz18 : zP2 N18 p a b := hz17.ve hV18
                  have hG18 : zFr f g18 o (o + 681) := zFr.tr2 hG17 hF18
                  refine z_imul (z := (zleast (zlook a p (zpx q p) (zpy q p) (zpz q p))) * (zleast (zlook b p (zpx q p) (zpy q p) (zpz q p)))) CX dL_balances_182 rfl ?_
                  refine z_icmp_lt (tgt := 199) CX dL_balances_183 (by decide) (by constructor <;> omega) (by constructor <;> omega) (fun c_183 => ?_) (fun c_183 => ?_)
                  ·
                    omega
                  ·
                    refine lv_iload hX0 hB0 dL_balances_186 (lv_at hl 1 rfl) ?_
                    refine lv_aload_n hX0 hB0 dL_balances_188 rfl (lv_at hl 2 rfl) ?_
                    refine lv_iload_n hX0 hB0 dL_balances_189 rfl (lv_at hl 5 rfl) ?_
                    refine lv_iload_n hX0 hB0 dL_balances_190 rfl (lv_at hl 4 rfl) ?_
                    refine lv_iload hX0 hB0 dL_balances_191 (lv_at hl 12 rfl) ?_
                    refine z_calli hW (va_runV (C := RX11) (As := [.int (zI 1), .int (zI 0), .int (zI q)]) (rest := [.int (zI ((T q : Int)))]) CX.fix (zd_times l (f := g18) o N18 1 0 q hP18 hC18 (by omega) (by omega) (by omega)) (cwV 3 CX.fix.2.2.2.2 gL_balances_X11_times rfl rfl rfl (by decide +kernel) ⟨Nat.le_of_ble_eq_true rfl, Nat.le_of_ble_eq_true rfl⟩) (z_preV CX hW (r := (RX11, TX11, 13)) (show g18 o = _ from hP18.c0) rfl) rfl rfl hl.1 rfl (lv_room (Nat.le_of_ble_eq_true rfl)) dL_balances_193 ⟨by show _ ≤ 0; omega, by show _ ≤ 0; omega⟩) (fun zv gn H locs hok193 hW => ?_)
                    obtain ⟨ez, hP19, hC19, hF19, hV19, hR19⟩ := hok193
                    have ev19 : (zc_times N18 1 0 q).1 = (T q : Int) := nA_times10 hz18 (zPr_2 hpr) hT hzq
                    rw [ez, ev19] at hR19
                    rw [ez, ev19]
                    clear ez ev19
                    obtain ⟨N19, eN19⟩ : ∃ Z9, Z9 = (zc_times N18 1 0 q).2 := ⟨_, rfl⟩
                    rw [← eN19] at hP19 hC19 hV19
                    clear eN19
                    obtain ⟨g19, eg19⟩ : ∃ q, q = gn := ⟨_, rfl⟩
                    rw [← eg19] at hW hP19 hF19
                    clear eg19
                    have hz19 : zP2 N19 p a b := hz18.ve hV19
                    have hG19 : zFr f g19 o (o + 681) := zFr.tr2 hG18 hF19
                    refine z_icmp_eq (tgt := 201) CX dL_balances_196 (by decide) (by constructor <;> omega) (by constructor <;> omega) (fun c_196 => ?_) (fun c_196 => ?_)
                    ·
                      refine lv_iload hX0 hB0 dL_balances_201 (lv_at hl 0 rfl) ?_
                      refine z_if_eq (tgt := 221) CX dL_balances_203 (by decide) (by constructor <;> omega) (fun c_203 => ?_) (fun c_203 => ?_)
                      ·
                        refine lv_iconst (v := zI 0) hX0 hB0 dL_balances_221 rfl ?_
                        refine lv_istore (lv' := [(13, .int (zI 0)), (12, .int (zI 0)), (11, .int (zI ((T q : Int)))), (0, .ref o), (1, .int (zI p)), (2, .int (zI 0)), (3, .int (zI 1)), (4, .int (zI ((ztop a) * (ztop b)))), (5, .int (zI near)), (6, .int (zI far)), (7, .int (zI many)), (8, .int (zI most)), (9, .int (zI first)), (10, .int (zI q))]) hX0 hB0 dL_balances_222 hl (by decide) rfl (fun ls hl => ?_)
                        refine lv_iconst (v := zI 0) hX0 hB0 dL_balances_224 rfl ?_
                        refine lv_istore (lv' := [(14, .int (zI 0)), (13, .int (zI 0)), (12, .int (zI 0)), (11, .int (zI ((T q : Int)))), (0, .ref o), (1, .int (zI p)), (2, .int (zI 0)), (3, .int (zI 1)), (4, .int (zI ((ztop a) * (ztop b)))), (5, .int (zI near)), (6, .int (zI far)), (7, .int (zI many)), (8, .int (zI most)), (9, .int (zI first)), (10, .int (zI q))]) hX0 hB0 dL_balances_225 hl (by decide) rfl (fun ls hl => ?_)
                        refine lv_iload hX0 hB0 dL_balances_227 (lv_at hl 0 rfl) ?_
                        refine lv_iconst (v := zI 4) hX0 hB0 dL_balances_229 rfl ?_
                        refine z_icmp_ge (tgt := 254) CX dL_balances_230 (by decide) (by constructor <;> omega) (by constructor <;> omega) (fun c_230 => ?_) (fun c_230 => ?_)
                        ·
                          omega
                        ·
                          refine lv_iload hX0 hB0 dL_balances_233 (lv_at hl 1 rfl) ?_
                          refine lv_aload_n hX0 hB0 dL_balances_235 rfl (lv_at hl 4 rfl) ?_
                          refine lv_iload_n hX0 hB0 dL_balances_236 rfl (lv_at hl 6 rfl) ?_
                          refine lv_iload_n hX0 hB0 dL_balances_237 rfl (lv_at hl 7 rfl) ?_
                          refine lv_iload hX0 hB0 dL_balances_238 (lv_at hl 14 rfl) ?_
                          refine lv_iload hX0 hB0 dL_balances_240 (lv_at hl 0 rfl) ?_
                          refine z_calli hW (va_runV (C := RX11) (As := [.int (zI 0), .int (zI 1), .int (zI q), .int (zI 0)]) (rest := [.int (zI 0)]) CX.fix (zd_rules l (f := g19) o N19 0 1 q 0 hP19 hC19 (by omega) (by omega) (by omega) (by omega)) (cwV 4 CX.fix.2.2.2.2 gL_balances_X11_rules rfl rfl rfl (by decide +kernel) ⟨Nat.le_of_ble_eq_true rfl, Nat.le_of_ble_eq_true rfl⟩) (z_preV CX hW (r := (RX11, TX11, 13)) (show g19 o = _ from hP19.c0) rfl) rfl rfl hl.1 rfl (lv_room (Nat.le_of_ble_eq_true rfl)) dL_balances_242 ⟨by show _ ≤ 0; omega, by show _ ≤ 0; omega⟩) (fun zv gn H locs hok242 hW => ?_)
                          obtain ⟨ez, hP20, hC20, hF20, hV20, hR20⟩ := hok242
                          have ev20 : (zc_rules N19 0 1 q 0).1 = kRr p a b q 0 := nA_rules hz19 (zPr_2 hpr) hT hzq (by omega)
                          rw [ez, ev20]
                          clear ez ev20
                          obtain ⟨N20, eN20⟩ : ∃ Z9, Z9 = (zc_rules N19 0 1 q 0).2 := ⟨_, rfl⟩
                          rw [← eN20] at hP20 hC20 hV20
                          clear eN20
                          obtain ⟨g20, eg20⟩ : ∃ q, q = gn := ⟨_, rfl⟩
                          rw [← eg20] at hW hP20 hF20
                          clear eg20
                          have hz20 : zP2 N20 p a b := hz19.ve hV20
                          have hG20 : zFr f g20 o (o + 681) := zFr.tr2 hG19 hF20
                          refine z_iadd (z := 0 + (kRr p a b q 0)) CX dL_balances_245 rfl ?_
                          refine lv_istore (lv' := [(13, .int (zI (0 + (kRr p a b q 0)))), (14, .int (zI 0)), (12, .int (zI 0)), (11, .int (zI ((T q : Int)))), (0, .ref o), (1, .int (zI p)), (2, .int (zI 0)), (3, .int (zI 1)), (4, .int (zI ((ztop a) * (ztop b)))), (5, .int (zI near)), (6, .int (zI far)), (7, .int (zI many)), (8, .int (zI most)), (9, .int (zI first)), (10, .int (zI q))]) hX0 hB0 dL_balances_246 hl (by decide) rfl (fun ls hl => ?_)
                          refine lv_iinc (v := zI 1) (lv' := [(14, .int (zI 1)), (13, .int (zI (0 + (kRr p a b q 0)))), (12, .int (zI 0)), (11, .int (zI ((T q : Int)))), (0, .ref o), (1, .int (zI p)), (2, .int (zI 0)), (3, .int (zI 1)), (4, .int (zI ((ztop a) * (ztop b)))), (5, .int (zI near)), (6, .int (zI far)), (7, .int (zI many)), (8, .int (zI most)), (9, .int (zI first)), (10, .int (zI q))]) hX0 hB0 dL_balances_248 hl (k := 1) rfl (by decide) (by decide) rfl (fun ls hl => ?_)
                          refine lv_goto (tgt := 227) hX0 hB0 dL_balances_251 (by decide) ?_
                          refine lv_iload hX0 hB0 dL_balances_227 (lv_at hl 0 rfl) ?_
                          refine lv_iconst (v := zI 4) hX0 hB0 dL_balances_229 rfl ?_
                          refine z_icmp_ge (tgt := 254) CX dL_balances_230 (by decide) (by constructor <;> omega) (by constructor <;> omega) (fun c_230 => ?_) (fun c_230 => ?_)
                          ·
                            omega
                          ·
                            refine lv_iload hX0 hB0 dL_balances_233 (lv_at hl 1 rfl) ?_
                            refine lv_aload_n hX0 hB0 dL_balances_235 rfl (lv_at hl 4 rfl) ?_
                            refine lv_iload_n hX0 hB0 dL_balances_236 rfl (lv_at hl 6 rfl) ?_
                            refine lv_iload_n hX0 hB0 dL_balances_237 rfl (lv_at hl 7 rfl) ?_
                            refine lv_iload hX0 hB0 dL_balances_238 (lv_at hl 14 rfl) ?_
                            refine lv_iload hX0 hB0 dL_balances_240 (lv_at hl 0 rfl) ?_
                            refine z_calli hW (va_runV (C := RX11) (As := [.int (zI 0), .int (zI 1), .int (zI q), .int (zI 1)]) (rest := [.int (zI (0 + (kRr p a b q 0)))]) CX.fix (zd_rules l (f := g20) o N20 0 1 q 1 hP20 hC20 (by omega) (by omega) (by omega) (by omega)) (cwV 4 CX.fix.2.2.2.2 gL_balances_X11_rules rfl rfl rfl (by decide +kernel) ⟨Nat.le_of_ble_eq_true rfl, Nat.le_of_ble_eq_true rfl⟩) (z_preV CX hW (r := (RX11, TX11, 13)) (show g20 o = _ from hP20.c0) rfl) rfl rfl hl.1 rfl (lv_room (Nat.le_of_ble_eq_true rfl)) dL_balances_242 ⟨by show _ ≤ 0; omega, by show _ ≤ 0; omega⟩) (fun zv gn H locs hok242 hW => ?_)
                            obtain ⟨ez, hP21, hC21, hF21, hV21, hR21⟩ := hok242
                            have ev21 : (zc_rules N20 0 1 q 1).1 = kRr p a b q 1 := nA_rules hz20 (zPr_2 hpr) hT hzq (by omega)
                            rw [ez, ev21]
                            clear ez ev21
                            obtain ⟨N21, eN21⟩ : ∃ Z9, Z9 = (zc_rules N20 0 1 q 1).2 := ⟨_, rfl⟩
                            rw [← eN21] at hP21 hC21 hV21
                            clear eN21
                            obtain ⟨g21, eg21⟩ : ∃ q, q = gn := ⟨_, rfl⟩
                            rw [← eg21] at hW hP21 hF21
                            clear eg21
                            have hz21 : zP2 N21 p a b := hz20.ve hV21
                            have hG21 : zFr f g21 o (o + 681) := zFr.tr2 hG20 hF21
                            refine z_iadd (z := (0 + (kRr p a b q 0)) + (kRr p a b q 1)) CX dL_balances_245 rfl ?_
                            refine lv_istore (lv' := [(13, .int (zI ((0 + (kRr p a b q 0)) + (kRr p a b q 1)))), (14, .int (zI 1)), (12, .int (zI 0)), (11, .int (zI ((T q : Int)))), (0, .ref o), (1, .int (zI p)), (2, .int (zI 0)), (3, .int (zI 1)), (4, .int (zI ((ztop a) * (ztop b)))), (5, .int (zI near)), (6, .int (zI far)), (7, .int (zI many)), (8, .int (zI most)), (9, .int (zI first)), (10, .int (zI q))]) hX0 hB0 dL_balances_246 hl (by decide) rfl (fun ls hl => ?_)
                            refine lv_iinc (v := zI 2) (lv' := [(14, .int (zI 2)), (13, .int (zI ((0 + (kRr p a b q 0)) + (kRr p a b q 1)))), (12, .int (zI 0)), (11, .int (zI ((T q : Int)))), (0, .ref o), (1, .int (zI p)), (2, .int (zI 0)), (3, .int (zI 1)), (4, .int (zI ((ztop a) * (ztop b)))), (5, .int (zI near)), (6, .int (zI far)), (7, .int (zI many)), (8, .int (zI most)), (9, .int (zI first)), (10, .int (zI q))]) hX0 hB0 dL_balances_248 hl (k := 1) rfl (by decide) (by decide) rfl (fun ls hl => ?_)
                            refine lv_goto (tgt := 227) hX0 hB0 dL_balances_251 (by decide) ?_
                            refine lv_iload hX0 hB0 dL_balances_227 (lv_at hl 0 rfl) ?_
                            refine lv_iconst (v := zI 4) hX0 hB0 dL_balances_229 rfl ?_
                            refine z_icmp_ge (tgt := 254) CX dL_balances_230 (by decide) (by constructor <;> omega) (by constructor <;> omega) (fun c_230 => ?_) (fun c_230 => ?_)
                            ·
                              omega
                            ·
                              refine lv_iload hX0 hB0 dL_balances_233 (lv_at hl 1 rfl) ?_
                              refine lv_aload_n hX0 hB0 dL_balances_235 rfl (lv_at hl 4 rfl) ?_
                              refine lv_iload_n hX0 hB0 dL_balances_236 rfl (lv_at hl 6 rfl) ?_
                              refine lv_iload_n hX0 hB0 dL_balances_237 rfl (lv_at hl 7 rfl) ?_
                              refine lv_iload hX0 hB0 dL_balances_238 (lv_at hl 14 rfl) ?_
                              refine lv_iload hX0 hB0 dL_balances_240 (lv_at hl 0 rfl) ?_
                              refine z_calli hW (va_runV (C := RX11) (As := [.int (zI 0), .int (zI 1), .int (zI q), .int (zI 2)]) (rest := [.int (zI ((0 + (kRr p a b q 0)) + (kRr p a b q 1)))]) CX.fix (zd_rules l (f := g21) o N21 0 1 q 2 hP21 hC21 (by omega) (by omega) (by omega) (by omega)) (cwV 4 CX.fix.2.2.2.2 gL_balances_X11_rules rfl rfl rfl (by decide +kernel) ⟨Nat.le_of_ble_eq_true rfl, Nat.le_of_ble_eq_true rfl⟩) (z_preV CX hW (r := (RX11, TX11, 13)) (show g21 o = _ from hP21.c0) rfl) rfl rfl hl.1 rfl (lv_room (Nat.le_of_ble_eq_true rfl)) dL_balances_242 ⟨by show _ ≤ 0; omega, by show _ ≤ 0; omega⟩) (fun zv gn H locs hok242 hW => ?_)
                              obtain ⟨ez, hP22, hC22, hF22, hV22, hR22⟩ := hok242
                              have ev22 : (zc_rules N21 0 1 q 2).1 = kRr p a b q 2 := nA_rules hz21 (zPr_2 hpr) hT hzq (by omega)
                              rw [ez, ev22]
                              clear ez ev22
                              obtain ⟨N22, eN22⟩ : ∃ Z9, Z9 = (zc_rules N21 0 1 q 2).2 := ⟨_, rfl⟩
                              rw [← eN22] at hP22 hC22 hV22
                              clear eN22
                              obtain ⟨g22, eg22⟩ : ∃ q, q = gn := ⟨_, rfl⟩
                              rw [← eg22] at hW hP22 hF22
                              clear eg22
                              have hz22 : zP2 N22 p a b := hz21.ve hV22
                              have hG22 : zFr f g22 o (o + 681) := zFr.tr2 hG21 hF22
                              refine z_iadd (z := ((0 + (kRr p a b q 0)) + (kRr p a b q 1)) + (kRr p a b q 2)) CX dL_balances_245 rfl ?_
                              refine lv_istore (lv' := [(13, .int (zI (((0 + (kRr p a b q 0)) + (kRr p a b q 1)) + (kRr p a b q 2)))), (14, .int (zI 2)), (12, .int (zI 0)), (11, .int (zI ((T q : Int)))), (0, .ref o), (1, .int (zI p)), (2, .int (zI 0)), (3, .int (zI 1)), (4, .int (zI ((ztop a) * (ztop b)))), (5, .int (zI near)), (6, .int (zI far)), (7, .int (zI many)), (8, .int (zI most)), (9, .int (zI first)), (10, .int (zI q))]) hX0 hB0 dL_balances_246 hl (by decide) rfl (fun ls hl => ?_)
                              refine lv_iinc (v := zI 3) (lv' := [(14, .int (zI 3)), (13, .int (zI (((0 + (kRr p a b q 0)) + (kRr p a b q 1)) + (kRr p a b q 2)))), (12, .int (zI 0)), (11, .int (zI ((T q : Int)))), (0, .ref o), (1, .int (zI p)), (2, .int (zI 0)), (3, .int (zI 1)), (4, .int (zI ((ztop a) * (ztop b)))), (5, .int (zI near)), (6, .int (zI far)), (7, .int (zI many)), (8, .int (zI most)), (9, .int (zI first)), (10, .int (zI q))]) hX0 hB0 dL_balances_248 hl (k := 1) rfl (by decide) (by decide) rfl (fun ls hl => ?_)
                              refine lv_goto (tgt := 227) hX0 hB0 dL_balances_251 (by decide) ?_
                              refine lv_iload hX0 hB0 dL_balances_227 (lv_at hl 0 rfl) ?_
                              refine lv_iconst (v := zI 4) hX0 hB0 dL_balances_229 rfl ?_
                              refine z_icmp_ge (tgt := 254) CX dL_balances_230 (by decide) (by constructor <;> omega) (by constructor <;> omega) (fun c_230 => ?_) (fun c_230 => ?_)
                              ·
                                omega
                              ·
                                refine lv_iload hX0 hB0 dL_balances_233 (lv_at hl 1 rfl) ?_
                                refine lv_aload_n hX0 hB0 dL_balances_235 rfl (lv_at hl 4 rfl) ?_
                                refine lv_iload_n hX0 hB0 dL_balances_236 rfl (lv_at hl 6 rfl) ?_
                                refine lv_iload_n hX0 hB0 dL_balances_237 rfl (lv_at hl 7 rfl) ?_
                                refine lv_iload hX0 hB0 dL_balances_238 (lv_at hl 14 rfl) ?_
                                refine lv_iload hX0 hB0 dL_balances_240 (lv_at hl 0 rfl) ?_
                                refine z_calli hW (va_runV (C := RX11) (As := [.int (zI 0), .int (zI 1), .int (zI q), .int (zI 3)]) (rest := [.int (zI (((0 + (kRr p a b q 0)) + (kRr p a b q 1)) + (kRr p a b q 2)))]) CX.fix (zd_rules l (f := g22) o N22 0 1 q 3 hP22 hC22 (by omega) (by omega) (by omega) (by omega)) (cwV 4 CX.fix.2.2.2.2 gL_balances_X11_rules rfl rfl rfl (by decide +kernel) ⟨Nat.le_of_ble_eq_true rfl, Nat.le_of_ble_eq_true rfl⟩) (z_preV CX hW (r := (RX11, TX11, 13)) (show g22 o = _ from hP22.c0) rfl) rfl rfl hl.1 rfl (lv_room (Nat.le_of_ble_eq_true rfl)) dL_balances_242 ⟨by show _ ≤ 0; omega, by show _ ≤ 0; omega⟩) (fun zv gn H locs hok242 hW => ?_)
                                obtain ⟨ez, hP23, hC23, hF23, hV23, hR23⟩ := hok242
                                have ev23 : (zc_rules N22 0 1 q 3).1 = kRr p a b q 3 := nA_rules hz22 (zPr_2 hpr) hT hzq (by omega)
                                rw [ez, ev23]
                                clear ez ev23
                                obtain ⟨N23, eN23⟩ : ∃ Z9, Z9 = (zc_rules N22 0 1 q 3).2 := ⟨_, rfl⟩
                                rw [← eN23] at hP23 hC23 hV23
                                clear eN23
                                obtain ⟨g23, eg23⟩ : ∃ q, q = gn := ⟨_, rfl⟩
                                rw [← eg23] at hW hP23 hF23
                                clear eg23
                                have hz23 : zP2 N23 p a b := hz22.ve hV23
                                have hG23 : zFr f g23 o (o + 681) := zFr.tr2 hG22 hF23
                                refine z_iadd (z := (((0 + (kRr p a b q 0)) + (kRr p a b q 1)) + (kRr p a b q 2)) + (kRr p a b q 3)) CX dL_balances_245 rfl ?_
                                refine lv_istore (lv' := [(13, .int (zI ((((0 + (kRr p a b q 0)) + (kRr p a b q 1)) + (kRr p a b q 2)) + (kRr p a b q 3)))), (14, .int (zI 3)), (12, .int (zI 0)), (11, .int (zI ((T q : Int)))), (0, .ref o), (1, .int (zI p)), (2, .int (zI 0)), (3, .int (zI 1)), (4, .int (zI ((ztop a) * (ztop b)))), (5, .int (zI near)), (6, .int (zI far)), (7, .int (zI many)), (8, .int (zI most)), (9, .int (zI first)), (10, .int (zI q))]) hX0 hB0 dL_balances_246 hl (by decide) rfl (fun ls hl => ?_)
                                refine lv_iinc (v := zI 4) (lv' := [(14, .int (zI 4)), (13, .int (zI ((((0 + (kRr p a b q 0)) + (kRr p a b q 1)) + (kRr p a b q 2)) + (kRr p a b q 3)))), (12, .int (zI 0)), (11, .int (zI ((T q : Int)))), (0, .ref o), (1, .int (zI p)), (2, .int (zI 0)), (3, .int (zI 1)), (4, .int (zI ((ztop a) * (ztop b)))), (5, .int (zI near)), (6, .int (zI far)), (7, .int (zI many)), (8, .int (zI most)), (9, .int (zI first)), (10, .int (zI q))]) hX0 hB0 dL_balances_248 hl (k := 1) rfl (by decide) (by decide) rfl (fun ls hl => ?_)
                                refine lv_goto (tgt := 227) hX0 hB0 dL_balances_251 (by decide) ?_
                                refine lv_iload hX0 hB0 dL_balances_227 (lv_at hl 0 rfl) ?_
                                refine lv_iconst (v := zI 4) hX0 hB0 dL_balances_229 rfl ?_
                                refine z_icmp_ge (tgt := 254) CX dL_balances_230 (by decide) (by constructor <;> omega) (by constructor <;> omega) (fun c_230 => ?_) (fun c_230 => ?_)
                                ·
                                  refine lv_aload_n hX0 hB0 dL_balances_254 rfl (lv_at hl 4 rfl) ?_
                                  refine lv_iload_n hX0 hB0 dL_balances_255 rfl (lv_at hl 6 rfl) ?_
                                  refine lv_iload_n hX0 hB0 dL_balances_256 rfl (lv_at hl 7 rfl) ?_
                                  refine lv_iload hX0 hB0 dL_balances_257 (lv_at hl 14 rfl) ?_
                                  refine lv_iconst (v := zI 0) hX0 hB0 dL_balances_259 rfl ?_
                                  refine z_calli hW (va_runV (C := RX11) (As := [.int (zI 0), .int (zI 1), .int (zI q), .int (zI 0)]) (rest := []) CX.fix (zd_rules l (f := g23) o N23 0 1 q 0 hP23 hC23 (by omega) (by omega) (by omega) (by omega)) (cwV 4 CX.fix.2.2.2.2 gL_balances_X11_rules rfl rfl rfl (by decide +kernel) ⟨Nat.le_of_ble_eq_true rfl, Nat.le_of_ble_eq_true rfl⟩) (z_preV CX hW (r := (RX11, TX11, 13)) (show g23 o = _ from hP23.c0) rfl) rfl rfl hl.1 rfl (lv_room (Nat.le_of_ble_eq_true rfl)) dL_balances_260 ⟨by show _ ≤ 0; omega, by show _ ≤ 0; omega⟩) (fun zv gn H locs hok260 hW => ?_)
                                  obtain ⟨ez, hP24, hC24, hF24, hV24, hR24⟩ := hok260
                                  have ev24 : (zc_rules N23 0 1 q 0).1 = kRr p a b q 0 := nA_rules hz23 (zPr_2 hpr) hT hzq (by omega)
                                  rw [ez, ev24]
                                  clear ez ev24
                                  obtain ⟨N24, eN24⟩ : ∃ Z9, Z9 = (zc_rules N23 0 1 q 0).2 := ⟨_, rfl⟩
                                  rw [← eN24] at hP24 hC24 hV24
                                  clear eN24
                                  obtain ⟨g24, eg24⟩ : ∃ q, q = gn := ⟨_, rfl⟩
                                  rw [← eg24] at hW hP24 hF24
                                  clear eg24
                                  have hz24 : zP2 N24 p a b := hz23.ve hV24
                                  have hG24 : zFr f g24 o (o + 681) := zFr.tr2 hG23 hF24
                                  refine lv_iconst (v := zI 1) hX0 hB0 dL_balances_263 rfl ?_
                                  refine z_icmp_ne (tgt := 296) CX dL_balances_264 (by decide) (by constructor <;> omega) (by constructor <;> omega) (fun c_264 => ?_) (fun c_264 => ?_)
                                  ·
                                    omega
                                  ·
                                    refine lv_aload_n hX0 hB0 dL_balances_267 rfl (lv_at hl 4 rfl) ?_
                                    refine lv_iload_n hX0 hB0 dL_balances_268 rfl (lv_at hl 6 rfl) ?_
                                    refine lv_iload_n hX0 hB0 dL_balances_269 rfl (lv_at hl 7 rfl) ?_
                                    refine lv_iload hX0 hB0 dL_balances_270 (lv_at hl 14 rfl) ?_
                                    refine lv_iload hX0 hB0 dL_balances_272 (lv_at hl 1 rfl) ?_
                                    refine lv_iconst (v := zI 1) hX0 hB0 dL_balances_274 rfl ?_
                                    refine z_isub (z := ((((0 + (kRr p a b q 0)) + (kRr p a b q 1)) + (kRr p a b q 2)) + (kRr p a b q 3)) - 1) CX dL_balances_275 rfl ?_
                                    refine z_calli hW (va_runV (C := RX11) (As := [.int (zI 0), .int (zI 1), .int (zI q), .int (zI (((((0 + (kRr p a b q 0)) + (kRr p a b q 1)) + (kRr p a b q 2)) + (kRr p a b q 3)) - 1))]) (rest := []) CX.fix (zd_rule l (f := g24) o N24 0 1 q (((((0 + (kRr p a b q 0)) + (kRr p a b q 1)) + (kRr p a b q 2)) + (kRr p a b q 3)) - 1) hP24 hC24 (by omega) (by omega) (by omega) (by omega)) (cwV 4 CX.fix.2.2.2.2 gL_balances_X11_rule rfl rfl rfl (by decide +kernel) ⟨Nat.le_of_ble_eq_true rfl, Nat.le_of_ble_eq_true rfl⟩) (z_preV CX hW (r := (RX11, TX11, 13)) (show g24 o = _ from hP24.c0) rfl) rfl rfl hl.1 rfl (lv_room (Nat.le_of_ble_eq_true rfl)) dL_balances_276 ⟨by show _ ≤ 0; omega, by show _ ≤ 0; omega⟩) (fun zv gn H locs hok276 hW => ?_)
                                    obtain ⟨ez, hP25, hC25, hF25, hV25, hR25⟩ := hok276
                                    have ev25 : (zc_rule N24 0 1 q (((((0 + (kRr p a b q 0)) + (kRr p a b q 1)) + (kRr p a b q 2)) + (kRr p a b q 3)) - 1)).1 = 0 := (by rw [show ((((0 + (kRr p a b q 0)) + (kRr p a b q 1)) + (kRr p a b q 2)) + (kRr p a b q 3)) - 1 = kRs p a b q - 1 by omega]; exact (nA_rule hz24 hpr ha hb (by omega) (by omega) hT hzq).1)
                                    rw [ez, ev25]
                                    clear ez ev25
                                    obtain ⟨N25, eN25⟩ : ∃ Z9, Z9 = (zc_rule N24 0 1 q (((((0 + (kRr p a b q 0)) + (kRr p a b q 1)) + (kRr p a b q 2)) + (kRr p a b q 3)) - 1)).2 := ⟨_, rfl⟩
                                    rw [← eN25] at hP25 hC25 hV25
                                    clear eN25
                                    obtain ⟨g25, eg25⟩ : ∃ q, q = gn := ⟨_, rfl⟩
                                    rw [← eg25] at hW hP25 hF25
                                    clear eg25
                                    have hz25 : zP2 N25 p a b := hz24.ve hV25
                                    have hG25 : zFr f g25 o (o + 681) := zFr.tr2 hG24 hF25
                                    refine z_if_ne (tgt := 296) CX dL_balances_279 (by decide) (by constructor <;> omega) (fun c_279 => ?_) (fun c_279 => ?_)
                                    ·
                                      omega
                                    ·
                                      refine lv_aload_n hX0 hB0 dL_balances_282 rfl (lv_at hl 4 rfl) ?_
                                      refine lv_iload_n hX0 hB0 dL_balances_283 rfl (lv_at hl 6 rfl) ?_
                                      refine lv_iload_n hX0 hB0 dL_balances_284 rfl (lv_at hl 7 rfl) ?_
                                      refine lv_iload hX0 hB0 dL_balances_285 (lv_at hl 14 rfl) ?_
                                      refine lv_iload hX0 hB0 dL_balances_287 (lv_at hl 1 rfl) ?_
                                      refine z_calli hW (va_runV (C := RX11) (As := [.int (zI 0), .int (zI 1), .int (zI q), .int (zI ((((0 + (kRr p a b q 0)) + (kRr p a b q 1)) + (kRr p a b q 2)) + (kRr p a b q 3)))]) (rest := []) CX.fix (zd_rule l (f := g25) o N25 0 1 q ((((0 + (kRr p a b q 0)) + (kRr p a b q 1)) + (kRr p a b q 2)) + (kRr p a b q 3)) hP25 hC25 (by omega) (by omega) (by omega) (by omega)) (cwV 4 CX.fix.2.2.2.2 gL_balances_X11_rule rfl rfl rfl (by decide +kernel) ⟨Nat.le_of_ble_eq_true rfl, Nat.le_of_ble_eq_true rfl⟩) (z_preV CX hW (r := (RX11, TX11, 13)) (show g25 o = _ from hP25.c0) rfl) rfl rfl hl.1 rfl (lv_room (Nat.le_of_ble_eq_true rfl)) dL_balances_289 ⟨by show _ ≤ 0; omega, by show _ ≤ 0; omega⟩) (fun zv gn H locs hok289 hW => ?_)
                                      obtain ⟨ez, hP26, hC26, hF26, hV26, hR26⟩ := hok289
                                      have ev26 : (zc_rule N25 0 1 q ((((0 + (kRr p a b q 0)) + (kRr p a b q 1)) + (kRr p a b q 2)) + (kRr p a b q 3))).1 = -1 := (by rw [show (((0 + (kRr p a b q 0)) + (kRr p a b q 1)) + (kRr p a b q 2)) + (kRr p a b q 3) = kRs p a b q by omega]; exact (nA_rule hz25 hpr ha hb (by omega) (by omega) hT hzq).2)
                                      rw [ez, ev26]
                                      clear ez ev26
                                      obtain ⟨N26, eN26⟩ : ∃ Z9, Z9 = (zc_rule N25 0 1 q ((((0 + (kRr p a b q 0)) + (kRr p a b q 1)) + (kRr p a b q 2)) + (kRr p a b q 3))).2 := ⟨_, rfl⟩
                                      rw [← eN26] at hP26 hC26 hV26
                                      clear eN26
                                      obtain ⟨g26, eg26⟩ : ∃ q, q = gn := ⟨_, rfl⟩
                                      rw [← eg26] at hW hP26 hF26
                                      clear eg26
                                      have hz26 : zP2 N26 p a b := hz25.ve hV26
                                      have hG26 : zFr f g26 o (o + 681) := zFr.tr2 hG25 hF26
                                      refine lv_iconst (v := zI (-1)) hX0 hB0 dL_balances_292 rfl ?_
                                      refine z_icmp_eq (tgt := 298) CX dL_balances_293 (by decide) (by constructor <;> omega) (by constructor <;> omega) (fun c_293 => ?_) (fun c_293 => ?_)
                                      ·
                                        refine lv_iload hX0 hB0 dL_balances_298 (lv_at hl 2 rfl) ?_
                                        refine z_if_ne (tgt := 306) CX dL_balances_300 (by decide) (by constructor <;> omega) (fun c_300 => ?_) (fun c_300 => ?_)
                                        ·
                                          omega
                                        ·
                                          refine lv_goto (tgt := 384) hX0 hB0 dL_balances_303 (by decide) ?_
                                          refine lv_iinc (v := zI (q + 1)) (lv' := [(10, .int (zI (q + 1))), (14, .int (zI 4)), (13, .int (zI ((((0 + (kRr p a b q 0)) + (kRr p a b q 1)) + (kRr p a b q 2)) + (kRr p a b q 3)))), (12, .int (zI 0)), (11, .int (zI ((T q : Int)))), (0, .ref o), (1, .int (zI p)), (2, .int (zI 0)), (3, .int (zI 1)), (4, .int (zI ((ztop a) * (ztop b)))), (5, .int (zI near)), (6, .int (zI far)), (7, .int (zI many)), (8, .int (zI most)), (9, .int (zI first))]) hX0 hB0 dL_balances_384 hl (k := 14) rfl (zI_add _ _) (by decide) rfl (fun ls hl => ?_)
                                          refine lv_goto (tgt := 97) hX0 hB0 dL_balances_387 (by decide) ?_
                                          exact ih97 g26 N26 near far many most first (q + 1) Lx ⟨hP26, hC26, hz26, hG26, by omega, by
                                            have z := hBI.s (by omega)
                                            have e1 : (if q < p * p then near + (T q : Int) else near) = near := by split <;> omega
                                            have e2 : (if q < p * p then far else far + (T q : Int)) = far := by split <;> omega
                                            have e3 : (if 0 < T q then many + 1 else many) = many := by split <;> omega
                                            have e4 : (if (T q : Int) ≤ most then most else (T q : Int)) = most := by split <;> omega
                                            have e5 : (if (T q : Int) ≤ most then first else q) = first := by split <;> omega
                                            rw [e1, e2, e3, e4, e5] at z
                                            exact z, by omega, by omega, by omega⟩ (by omega) H locs ls hW (lv_sub hl [5, 6, 7, 8, 9, 10, 11, 12, 13, 14, 0] rfl)
                                      ·
                                        omega
                                ·
                                  omega
                      ·
                        omega
                    ·
                      omega
              ·
                omega
          ·
            refine lv_aload_n hX0 hB0 dL_balances_129 rfl (lv_at hl 1 rfl) ?_
            refine lv_iload_n hX0 hB0 dL_balances_130 rfl (lv_at hl 4 rfl) ?_
            refine lv_iload hX0 hB0 dL_balances_131 (lv_at hl 11 rfl) ?_
            refine z_calli hW (va_runV (C := RX11) (As := [.int (zI 1), .int (zI q)]) (rest := []) CX.fix (zd_value l (f := g16) o N16 1 q hP16 hC16 (by omega) (by omega)) (cwV 2 CX.fix.2.2.2.2 gL_balances_X11_value rfl rfl rfl (by decide +kernel) ⟨Nat.le_of_ble_eq_true rfl, Nat.le_of_ble_eq_true rfl⟩) (z_preV CX hW (r := (RX11, TX11, 13)) (show g16 o = _ from hP16.c0) rfl) rfl rfl hl.1 rfl (lv_room (Nat.le_of_ble_eq_true rfl)) dL_balances_133 ⟨by show _ ≤ 0; omega, by show _ ≤ 0; omega⟩) (fun zv gn H locs hok133 hW => ?_)
            obtain ⟨ez, hP27, hC27, hF27, hV27, hR27⟩ := hok133
            have ev27 : (zc_value N16 1 q).1 = zval b (zpx q p) (zpy q p) (zpz q p) p := nA_value hz16 (zPr_2 hpr) (Or.inr rfl) hzq
            rw [ez, ev27] at hR27
            rw [ez, ev27]
            clear ez ev27
            obtain ⟨N27, eN27⟩ : ∃ Z9, Z9 = (zc_value N16 1 q).2 := ⟨_, rfl⟩
            rw [← eN27] at hP27 hC27 hV27
            clear eN27
            obtain ⟨g27, eg27⟩ : ∃ q, q = gn := ⟨_, rfl⟩
            rw [← eg27] at hW hP27 hF27
            clear eg27
            have hz27 : zP2 N27 p a b := hz16.ve hV27
            have hG27 : zFr f g27 o (o + 681) := zFr.tr2 hG16 hF27
            refine z_if_ne (tgt := 143) CX dL_balances_136 (by decide) (by constructor <;> omega) (fun c_136 => ?_) (fun c_136 => ?_)
            ·
              refine lv_iconst (v := zI 0) hX0 hB0 dL_balances_143 rfl ?_
              refine lv_istore (lv' := [(12, .int (zI 0)), (11, .int (zI ((T q : Int)))), (0, .ref o), (1, .int (zI p)), (2, .int (zI 0)), (3, .int (zI 1)), (4, .int (zI ((ztop a) * (ztop b)))), (5, .int (zI near)), (6, .int (zI far)), (7, .int (zI many)), (8, .int (zI most)), (9, .int (zI first)), (10, .int (zI q))]) hX0 hB0 dL_balances_144 hl (by decide) rfl (fun ls hl => ?_)
              refine lv_iload hX0 hB0 dL_balances_146 (lv_at hl 1 rfl) ?_
              refine z_if_lt (tgt := 199) CX dL_balances_148 (by decide) (by constructor <;> omega) (fun c_148 => ?_) (fun c_148 => ?_)
              ·
                omega
              ·
                refine lv_iload hX0 hB0 dL_balances_151 (lv_at hl 0 rfl) ?_
                refine lv_iload hX0 hB0 dL_balances_153 (lv_at hl 1 rfl) ?_
                refine z_if_le (tgt := 162) CX dL_balances_155 (by decide) (by constructor <;> omega) (fun c_155 => ?_) (fun c_155 => ?_)
                ·
                  refine lv_iconst (v := zI 0) hX0 hB0 dL_balances_162 rfl ?_
                  refine z_icmp_ne (tgt := 199) CX dL_balances_163 (by decide) (by constructor <;> omega) (by constructor <;> omega) (fun c_163 => ?_) (fun c_163 => ?_)
                  ·
                    omega
                  ·
                    refine lv_iload hX0 hB0 dL_balances_166 (lv_at hl 1 rfl) ?_
                    refine lv_aload_n hX0 hB0 dL_balances_168 rfl (lv_at hl 2 rfl) ?_
                    refine lv_iload_n hX0 hB0 dL_balances_169 rfl (lv_at hl 4 rfl) ?_
                    refine lv_iload hX0 hB0 dL_balances_170 (lv_at hl 12 rfl) ?_
                    refine z_calli hW (va_runV (C := RX11) (As := [.int (zI 0), .int (zI q)]) (rest := [.int (zI ((T q : Int)))]) CX.fix (zd_order l (f := g27) o N27 0 q hP27 hC27 (by omega) (by omega)) (cwV 2 CX.fix.2.2.2.2 gL_balances_X11_order rfl rfl rfl (by decide +kernel) ⟨Nat.le_of_ble_eq_true rfl, Nat.le_of_ble_eq_true rfl⟩) (z_preV CX hW (r := (RX11, TX11, 13)) (show g27 o = _ from hP27.c0) rfl) rfl rfl hl.1 rfl (lv_room (Nat.le_of_ble_eq_true rfl)) dL_balances_172 ⟨by show _ ≤ 0; omega, by show _ ≤ 0; omega⟩) (fun zv gn H locs hok172 hW => ?_)
                    obtain ⟨ez, hP28, hC28, hF28, hV28, hR28⟩ := hok172
                    have ev28 : (zc_order N27 0 q).1 = zleast (zlook a p (zpx q p) (zpy q p) (zpz q p)) := nA_order hz27 (zPr_2 hpr) (Or.inl rfl) hzq
                    rw [ez, ev28]
                    clear ez ev28
                    obtain ⟨N28, eN28⟩ : ∃ Z9, Z9 = (zc_order N27 0 q).2 := ⟨_, rfl⟩
                    rw [← eN28] at hP28 hC28 hV28
                    clear eN28
                    obtain ⟨g28, eg28⟩ : ∃ q, q = gn := ⟨_, rfl⟩
                    rw [← eg28] at hW hP28 hF28
                    clear eg28
                    have hz28 : zP2 N28 p a b := hz27.ve hV28
                    have hG28 : zFr f g28 o (o + 681) := zFr.tr2 hG27 hF28
                    refine lv_aload_n hX0 hB0 dL_balances_175 rfl (lv_at hl 2 rfl) ?_
                    refine lv_iload_n hX0 hB0 dL_balances_176 rfl (lv_at hl 5 rfl) ?_
                    refine lv_iload hX0 hB0 dL_balances_177 (lv_at hl 12 rfl) ?_
                    refine z_calli hW (va_runV (C := RX11) (As := [.int (zI 1), .int (zI q)]) (rest := [.int (zI (zleast (zlook a p (zpx q p) (zpy q p) (zpz q p)))), .int (zI ((T q : Int)))]) CX.fix (zd_order l (f := g28) o N28 1 q hP28 hC28 (by omega) (by omega)) (cwV 2 CX.fix.2.2.2.2 gL_balances_X11_order rfl rfl rfl (by decide +kernel) ⟨Nat.le_of_ble_eq_true rfl, Nat.le_of_ble_eq_true rfl⟩) (z_preV CX hW (r := (RX11, TX11, 13)) (show g28 o = _ from hP28.c0) rfl) rfl rfl hl.1 rfl (lv_room (Nat.le_of_ble_eq_true rfl)) dL_balances_179 ⟨by show _ ≤ 0; omega, by show _ ≤ 0; omega⟩) (fun zv gn H locs hok179 hW => ?_)
                    obtain ⟨ez, hP29, hC29, hF29, hV29, hR29⟩ := hok179
                    have ev29 : (zc_order N28 1 q).1 = zleast (zlook b p (zpx q p) (zpy q p) (zpz q p)) := nA_order hz28 (zPr_2 hpr) (Or.inr rfl) hzq
                    rw [ez, ev29]
                    clear ez ev29
                    obtain ⟨N29, eN29⟩ : ∃ Z9, Z9 = (zc_order N28 1 q).2 := ⟨_, rfl⟩
                    rw [← eN29] at hP29 hC29 hV29
                    clear eN29
                    obtain ⟨g29, eg29⟩ : ∃ q, q = gn := ⟨_, rfl⟩
                    rw [← eg29] at hW hP29 hF29
                    clear eg29
                    have hz29 : zP2 N29 p a b := hz28.ve hV29
                    have hG29 : zFr f g29 o (o + 681) := zFr.tr2 hG28 hF29
                    refine z_imul (z := (zleast (zlook a p (zpx q p) (zpy q p) (zpz q p))) * (zleast (zlook b p (zpx q p) (zpy q p) (zpz q p)))) CX dL_balances_182 rfl ?_
                    refine z_icmp_lt (tgt := 199) CX dL_balances_183 (by decide) (by constructor <;> omega) (by constructor <;> omega) (fun c_183 => ?_) (fun c_183 => ?_)
                    ·
                      omega
                    ·
                      refine lv_iload hX0 hB0 dL_balances_186 (lv_at hl 1 rfl) ?_
                      refine lv_aload_n hX0 hB0 dL_balances_188 rfl (lv_at hl 2 rfl) ?_
                      refine lv_iload_n hX0 hB0 dL_balances_189 rfl (lv_at hl 5 rfl) ?_
                      refine lv_iload_n hX0 hB0 dL_balances_190 rfl (lv_at hl 4 rfl) ?_
                      refine lv_iload hX0 hB0 dL_balances_191 (lv_at hl 12 rfl) ?_
                      refine z_calli hW (va_runV (C := RX11) (As := [.int (zI 1), .int (zI 0), .int (zI q)]) (rest := [.int (zI ((T q : Int)))]) CX.fix (zd_times l (f := g29) o N29 1 0 q hP29 hC29 (by omega) (by omega) (by omega)) (cwV 3 CX.fix.2.2.2.2 gL_balances_X11_times rfl rfl rfl (by decide +kernel) ⟨Nat.le_of_ble_eq_true rfl, Nat.le_of_ble_eq_true rfl⟩) (z_preV CX hW (r := (RX11, TX11, 13)) (show g29 o = _ from hP29.c0) rfl) rfl rfl hl.1 rfl (lv_room (Nat.le_of_ble_eq_true rfl)) dL_balances_193 ⟨by show _ ≤ 0; omega, by show _ ≤ 0; omega⟩) (fun zv gn H locs hok193 hW => ?_)
                      obtain ⟨ez, hP30, hC30, hF30, hV30, hR30⟩ := hok193
                      have ev30 : (zc_times N29 1 0 q).1 = (T q : Int) := nA_times10 hz29 (zPr_2 hpr) hT hzq
                      rw [ez, ev30] at hR30
                      rw [ez, ev30]
                      clear ez ev30
                      obtain ⟨N30, eN30⟩ : ∃ Z9, Z9 = (zc_times N29 1 0 q).2 := ⟨_, rfl⟩
                      rw [← eN30] at hP30 hC30 hV30
                      clear eN30
                      obtain ⟨g30, eg30⟩ : ∃ q, q = gn := ⟨_, rfl⟩
                      rw [← eg30] at hW hP30 hF30
                      clear eg30
                      have hz30 : zP2 N30 p a b := hz29.ve hV30
                      have hG30 : zFr f g30 o (o + 681) := zFr.tr2 hG29 hF30
                      refine z_icmp_eq (tgt := 201) CX dL_balances_196 (by decide) (by constructor <;> omega) (by constructor <;> omega) (fun c_196 => ?_) (fun c_196 => ?_)
                      ·
                        refine lv_iload hX0 hB0 dL_balances_201 (lv_at hl 0 rfl) ?_
                        refine z_if_eq (tgt := 221) CX dL_balances_203 (by decide) (by constructor <;> omega) (fun c_203 => ?_) (fun c_203 => ?_)
                        ·
                          refine lv_iconst (v := zI 0) hX0 hB0 dL_balances_221 rfl ?_
                          refine lv_istore (lv' := [(13, .int (zI 0)), (12, .int (zI 0)), (11, .int (zI ((T q : Int)))), (0, .ref o), (1, .int (zI p)), (2, .int (zI 0)), (3, .int (zI 1)), (4, .int (zI ((ztop a) * (ztop b)))), (5, .int (zI near)), (6, .int (zI far)), (7, .int (zI many)), (8, .int (zI most)), (9, .int (zI first)), (10, .int (zI q))]) hX0 hB0 dL_balances_222 hl (by decide) rfl (fun ls hl => ?_)
                          refine lv_iconst (v := zI 0) hX0 hB0 dL_balances_224 rfl ?_
                          refine lv_istore (lv' := [(14, .int (zI 0)), (13, .int (zI 0)), (12, .int (zI 0)), (11, .int (zI ((T q : Int)))), (0, .ref o), (1, .int (zI p)), (2, .int (zI 0)), (3, .int (zI 1)), (4, .int (zI ((ztop a) * (ztop b)))), (5, .int (zI near)), (6, .int (zI far)), (7, .int (zI many)), (8, .int (zI most)), (9, .int (zI first)), (10, .int (zI q))]) hX0 hB0 dL_balances_225 hl (by decide) rfl (fun ls hl => ?_)
                          refine lv_iload hX0 hB0 dL_balances_227 (lv_at hl 0 rfl) ?_
                          refine lv_iconst (v := zI 4) hX0 hB0 dL_balances_229 rfl ?_
                          refine z_icmp_ge (tgt := 254) CX dL_balances_230 (by decide) (by constructor <;> omega) (by constructor <;> omega) (fun c_230 => ?_) (fun c_230 => ?_)
                          ·
                            omega
                          ·
                            refine lv_iload hX0 hB0 dL_balances_233 (lv_at hl 1 rfl) ?_
                            refine lv_aload_n hX0 hB0 dL_balances_235 rfl (lv_at hl 4 rfl) ?_
                            refine lv_iload_n hX0 hB0 dL_balances_236 rfl (lv_at hl 6 rfl) ?_
                            refine lv_iload_n hX0 hB0 dL_balances_237 rfl (lv_at hl 7 rfl) ?_
                            refine lv_iload hX0 hB0 dL_balances_238 (lv_at hl 14 rfl) ?_
                            refine lv_iload hX0 hB0 dL_balances_240 (lv_at hl 0 rfl) ?_
                            refine z_calli hW (va_runV (C := RX11) (As := [.int (zI 0), .int (zI 1), .int (zI q), .int (zI 0)]) (rest := [.int (zI 0)]) CX.fix (zd_rules l (f := g30) o N30 0 1 q 0 hP30 hC30 (by omega) (by omega) (by omega) (by omega)) (cwV 4 CX.fix.2.2.2.2 gL_balances_X11_rules rfl rfl rfl (by decide +kernel) ⟨Nat.le_of_ble_eq_true rfl, Nat.le_of_ble_eq_true rfl⟩) (z_preV CX hW (r := (RX11, TX11, 13)) (show g30 o = _ from hP30.c0) rfl) rfl rfl hl.1 rfl (lv_room (Nat.le_of_ble_eq_true rfl)) dL_balances_242 ⟨by show _ ≤ 0; omega, by show _ ≤ 0; omega⟩) (fun zv gn H locs hok242 hW => ?_)
                            obtain ⟨ez, hP31, hC31, hF31, hV31, hR31⟩ := hok242
                            have ev31 : (zc_rules N30 0 1 q 0).1 = kRr p a b q 0 := nA_rules hz30 (zPr_2 hpr) hT hzq (by omega)
                            rw [ez, ev31]
                            clear ez ev31
                            obtain ⟨N31, eN31⟩ : ∃ Z9, Z9 = (zc_rules N30 0 1 q 0).2 := ⟨_, rfl⟩
                            rw [← eN31] at hP31 hC31 hV31
                            clear eN31
                            obtain ⟨g31, eg31⟩ : ∃ q, q = gn := ⟨_, rfl⟩
                            rw [← eg31] at hW hP31 hF31
                            clear eg31
                            have hz31 : zP2 N31 p a b := hz30.ve hV31
                            have hG31 : zFr f g31 o (o + 681) := zFr.tr2 hG30 hF31
                            refine z_iadd (z := 0 + (kRr p a b q 0)) CX dL_balances_245 rfl ?_
                            refine lv_istore (lv' := [(13, .int (zI (0 + (kRr p a b q 0)))), (14, .int (zI 0)), (12, .int (zI 0)), (11, .int (zI ((T q : Int)))), (0, .ref o), (1, .int (zI p)), (2, .int (zI 0)), (3, .int (zI 1)), (4, .int (zI ((ztop a) * (ztop b)))), (5, .int (zI near)), (6, .int (zI far)), (7, .int (zI many)), (8, .int (zI most)), (9, .int (zI first)), (10, .int (zI q))]) hX0 hB0 dL_balances_246 hl (by decide) rfl (fun ls hl => ?_)
                            refine lv_iinc (v := zI 1) (lv' := [(14, .int (zI 1)), (13, .int (zI (0 + (kRr p a b q 0)))), (12, .int (zI 0)), (11, .int (zI ((T q : Int)))), (0, .ref o), (1, .int (zI p)), (2, .int (zI 0)), (3, .int (zI 1)), (4, .int (zI ((ztop a) * (ztop b)))), (5, .int (zI near)), (6, .int (zI far)), (7, .int (zI many)), (8, .int (zI most)), (9, .int (zI first)), (10, .int (zI q))]) hX0 hB0 dL_balances_248 hl (k := 1) rfl (by decide) (by decide) rfl (fun ls hl => ?_)
                            refine lv_goto (tgt := 227) hX0 hB0 dL_balances_251 (by decide) ?_
                            refine lv_iload hX0 hB0 dL_balances_227 (lv_at hl 0 rfl) ?_
                            refine lv_iconst (v := zI 4) hX0 hB0 dL_balances_229 rfl ?_
                            refine z_icmp_ge (tgt := 254) CX dL_balances_230 (by decide) (by constructor <;> omega) (by constructor <;> omega) (fun c_230 => ?_) (fun c_230 => ?_)
                            ·
                              omega
                            ·
                              refine lv_iload hX0 hB0 dL_balances_233 (lv_at hl 1 rfl) ?_
                              refine lv_aload_n hX0 hB0 dL_balances_235 rfl (lv_at hl 4 rfl) ?_
                              refine lv_iload_n hX0 hB0 dL_balances_236 rfl (lv_at hl 6 rfl) ?_
                              refine lv_iload_n hX0 hB0 dL_balances_237 rfl (lv_at hl 7 rfl) ?_
                              refine lv_iload hX0 hB0 dL_balances_238 (lv_at hl 14 rfl) ?_
                              refine lv_iload hX0 hB0 dL_balances_240 (lv_at hl 0 rfl) ?_
                              refine z_calli hW (va_runV (C := RX11) (As := [.int (zI 0), .int (zI 1), .int (zI q), .int (zI 1)]) (rest := [.int (zI (0 + (kRr p a b q 0)))]) CX.fix (zd_rules l (f := g31) o N31 0 1 q 1 hP31 hC31 (by omega) (by omega) (by omega) (by omega)) (cwV 4 CX.fix.2.2.2.2 gL_balances_X11_rules rfl rfl rfl (by decide +kernel) ⟨Nat.le_of_ble_eq_true rfl, Nat.le_of_ble_eq_true rfl⟩) (z_preV CX hW (r := (RX11, TX11, 13)) (show g31 o = _ from hP31.c0) rfl) rfl rfl hl.1 rfl (lv_room (Nat.le_of_ble_eq_true rfl)) dL_balances_242 ⟨by show _ ≤ 0; omega, by show _ ≤ 0; omega⟩) (fun zv gn H locs hok242 hW => ?_)
                              obtain ⟨ez, hP32, hC32, hF32, hV32, hR32⟩ := hok242
                              have ev32 : (zc_rules N31 0 1 q 1).1 = kRr p a b q 1 := nA_rules hz31 (zPr_2 hpr) hT hzq (by omega)
                              rw [ez, ev32]
                              clear ez ev32
                              obtain ⟨N32, eN32⟩ : ∃ Z9, Z9 = (zc_rules N31 0 1 q 1).2 := ⟨_, rfl⟩
                              rw [← eN32] at hP32 hC32 hV32
                              clear eN32
                              obtain ⟨g32, eg32⟩ : ∃ q, q = gn := ⟨_, rfl⟩
                              rw [← eg32] at hW hP32 hF32
                              clear eg32
                              have hz32 : zP2 N32 p a b := hz31.ve hV32
                              have hG32 : zFr f g32 o (o + 681) := zFr.tr2 hG31 hF32
                              refine z_iadd (z := (0 + (kRr p a b q 0)) + (kRr p a b q 1)) CX dL_balances_245 rfl ?_
                              refine lv_istore (lv' := [(13, .int (zI ((0 + (kRr p a b q 0)) + (kRr p a b q 1)))), (14, .int (zI 1)), (12, .int (zI 0)), (11, .int (zI ((T q : Int)))), (0, .ref o), (1, .int (zI p)), (2, .int (zI 0)), (3, .int (zI 1)), (4, .int (zI ((ztop a) * (ztop b)))), (5, .int (zI near)), (6, .int (zI far)), (7, .int (zI many)), (8, .int (zI most)), (9, .int (zI first)), (10, .int (zI q))]) hX0 hB0 dL_balances_246 hl (by decide) rfl (fun ls hl => ?_)
                              refine lv_iinc (v := zI 2) (lv' := [(14, .int (zI 2)), (13, .int (zI ((0 + (kRr p a b q 0)) + (kRr p a b q 1)))), (12, .int (zI 0)), (11, .int (zI ((T q : Int)))), (0, .ref o), (1, .int (zI p)), (2, .int (zI 0)), (3, .int (zI 1)), (4, .int (zI ((ztop a) * (ztop b)))), (5, .int (zI near)), (6, .int (zI far)), (7, .int (zI many)), (8, .int (zI most)), (9, .int (zI first)), (10, .int (zI q))]) hX0 hB0 dL_balances_248 hl (k := 1) rfl (by decide) (by decide) rfl (fun ls hl => ?_)
                              refine lv_goto (tgt := 227) hX0 hB0 dL_balances_251 (by decide) ?_
                              refine lv_iload hX0 hB0 dL_balances_227 (lv_at hl 0 rfl) ?_
                              refine lv_iconst (v := zI 4) hX0 hB0 dL_balances_229 rfl ?_
                              refine z_icmp_ge (tgt := 254) CX dL_balances_230 (by decide) (by constructor <;> omega) (by constructor <;> omega) (fun c_230 => ?_) (fun c_230 => ?_)
                              ·
                                omega
                              ·
                                refine lv_iload hX0 hB0 dL_balances_233 (lv_at hl 1 rfl) ?_
                                refine lv_aload_n hX0 hB0 dL_balances_235 rfl (lv_at hl 4 rfl) ?_
                                refine lv_iload_n hX0 hB0 dL_balances_236 rfl (lv_at hl 6 rfl) ?_
                                refine lv_iload_n hX0 hB0 dL_balances_237 rfl (lv_at hl 7 rfl) ?_
                                refine lv_iload hX0 hB0 dL_balances_238 (lv_at hl 14 rfl) ?_
                                refine lv_iload hX0 hB0 dL_balances_240 (lv_at hl 0 rfl) ?_
                                refine z_calli hW (va_runV (C := RX11) (As := [.int (zI 0), .int (zI 1), .int (zI q), .int (zI 2)]) (rest := [.int (zI ((0 + (kRr p a b q 0)) + (kRr p a b q 1)))]) CX.fix (zd_rules l (f := g32) o N32 0 1 q 2 hP32 hC32 (by omega) (by omega) (by omega) (by omega)) (cwV 4 CX.fix.2.2.2.2 gL_balances_X11_rules rfl rfl rfl (by decide +kernel) ⟨Nat.le_of_ble_eq_true rfl, Nat.le_of_ble_eq_true rfl⟩) (z_preV CX hW (r := (RX11, TX11, 13)) (show g32 o = _ from hP32.c0) rfl) rfl rfl hl.1 rfl (lv_room (Nat.le_of_ble_eq_true rfl)) dL_balances_242 ⟨by show _ ≤ 0; omega, by show _ ≤ 0; omega⟩) (fun zv gn H locs hok242 hW => ?_)
                                obtain ⟨ez, hP33, hC33, hF33, hV33, hR33⟩ := hok242
                                have ev33 : (zc_rules N32 0 1 q 2).1 = kRr p a b q 2 := nA_rules hz32 (zPr_2 hpr) hT hzq (by omega)
                                rw [ez, ev33]
                                clear ez ev33
                                obtain ⟨N33, eN33⟩ : ∃ Z9, Z9 = (zc_rules N32 0 1 q 2).2 := ⟨_, rfl⟩
                                rw [← eN33] at hP33 hC33 hV33
                                clear eN33
                                obtain ⟨g33, eg33⟩ : ∃ q, q = gn := ⟨_, rfl⟩
                                rw [← eg33] at hW hP33 hF33
                                clear eg33
                                have hz33 : zP2 N33 p a b := hz32.ve hV33
                                have hG33 : zFr f g33 o (o + 681) := zFr.tr2 hG32 hF33
                                refine z_iadd (z := ((0 + (kRr p a b q 0)) + (kRr p a b q 1)) + (kRr p a b q 2)) CX dL_balances_245 rfl ?_
                                refine lv_istore (lv' := [(13, .int (zI (((0 + (kRr p a b q 0)) + (kRr p a b q 1)) + (kRr p a b q 2)))), (14, .int (zI 2)), (12, .int (zI 0)), (11, .int (zI ((T q : Int)))), (0, .ref o), (1, .int (zI p)), (2, .int (zI 0)), (3, .int (zI 1)), (4, .int (zI ((ztop a) * (ztop b)))), (5, .int (zI near)), (6, .int (zI far)), (7, .int (zI many)), (8, .int (zI most)), (9, .int (zI first)), (10, .int (zI q))]) hX0 hB0 dL_balances_246 hl (by decide) rfl (fun ls hl => ?_)
                                refine lv_iinc (v := zI 3) (lv' := [(14, .int (zI 3)), (13, .int (zI (((0 + (kRr p a b q 0)) + (kRr p a b q 1)) + (kRr p a b q 2)))), (12, .int (zI 0)), (11, .int (zI ((T q : Int)))), (0, .ref o), (1, .int (zI p)), (2, .int (zI 0)), (3, .int (zI 1)), (4, .int (zI ((ztop a) * (ztop b)))), (5, .int (zI near)), (6, .int (zI far)), (7, .int (zI many)), (8, .int (zI most)), (9, .int (zI first)), (10, .int (zI q))]) hX0 hB0 dL_balances_248 hl (k := 1) rfl (by decide) (by decide) rfl (fun ls hl => ?_)
                                refine lv_goto (tgt := 227) hX0 hB0 dL_balances_251 (by decide) ?_
                                refine lv_iload hX0 hB0 dL_balances_227 (lv_at hl 0 rfl) ?_
                                refine lv_iconst (v := zI 4) hX0 hB0 dL_balances_229 rfl ?_
                                refine z_icmp_ge (tgt := 254) CX dL_balances_230 (by decide) (by constructor <;> omega) (by constructor <;> omega) (fun c_230 => ?_) (fun c_230 => ?_)
                                ·
                                  omega
                                ·
                                  refine lv_iload hX0 hB0 dL_balances_233 (lv_at hl 1 rfl) ?_
                                  refine lv_aload_n hX0 hB0 dL_balances_235 rfl (lv_at hl 4 rfl) ?_
                                  refine lv_iload_n hX0 hB0 dL_balances_236 rfl (lv_at hl 6 rfl) ?_
                                  refine lv_iload_n hX0 hB0 dL_balances_237 rfl (lv_at hl 7 rfl) ?_
                                  refine lv_iload hX0 hB0 dL_balances_238 (lv_at hl 14 rfl) ?_
                                  refine lv_iload hX0 hB0 dL_balances_240 (lv_at hl 0 rfl) ?_
                                  refine z_calli hW (va_runV (C := RX11) (As := [.int (zI 0), .int (zI 1), .int (zI q), .int (zI 3)]) (rest := [.int (zI (((0 + (kRr p a b q 0)) + (kRr p a b q 1)) + (kRr p a b q 2)))]) CX.fix (zd_rules l (f := g33) o N33 0 1 q 3 hP33 hC33 (by omega) (by omega) (by omega) (by omega)) (cwV 4 CX.fix.2.2.2.2 gL_balances_X11_rules rfl rfl rfl (by decide +kernel) ⟨Nat.le_of_ble_eq_true rfl, Nat.le_of_ble_eq_true rfl⟩) (z_preV CX hW (r := (RX11, TX11, 13)) (show g33 o = _ from hP33.c0) rfl) rfl rfl hl.1 rfl (lv_room (Nat.le_of_ble_eq_true rfl)) dL_balances_242 ⟨by show _ ≤ 0; omega, by show _ ≤ 0; omega⟩) (fun zv gn H locs hok242 hW => ?_)
                                  obtain ⟨ez, hP34, hC34, hF34, hV34, hR34⟩ := hok242
                                  have ev34 : (zc_rules N33 0 1 q 3).1 = kRr p a b q 3 := nA_rules hz33 (zPr_2 hpr) hT hzq (by omega)
                                  rw [ez, ev34]
                                  clear ez ev34
                                  obtain ⟨N34, eN34⟩ : ∃ Z9, Z9 = (zc_rules N33 0 1 q 3).2 := ⟨_, rfl⟩
                                  rw [← eN34] at hP34 hC34 hV34
                                  clear eN34
                                  obtain ⟨g34, eg34⟩ : ∃ q, q = gn := ⟨_, rfl⟩
                                  rw [← eg34] at hW hP34 hF34
                                  clear eg34
                                  have hz34 : zP2 N34 p a b := hz33.ve hV34
                                  have hG34 : zFr f g34 o (o + 681) := zFr.tr2 hG33 hF34
                                  refine z_iadd (z := (((0 + (kRr p a b q 0)) + (kRr p a b q 1)) + (kRr p a b q 2)) + (kRr p a b q 3)) CX dL_balances_245 rfl ?_
                                  refine lv_istore (lv' := [(13, .int (zI ((((0 + (kRr p a b q 0)) + (kRr p a b q 1)) + (kRr p a b q 2)) + (kRr p a b q 3)))), (14, .int (zI 3)), (12, .int (zI 0)), (11, .int (zI ((T q : Int)))), (0, .ref o), (1, .int (zI p)), (2, .int (zI 0)), (3, .int (zI 1)), (4, .int (zI ((ztop a) * (ztop b)))), (5, .int (zI near)), (6, .int (zI far)), (7, .int (zI many)), (8, .int (zI most)), (9, .int (zI first)), (10, .int (zI q))]) hX0 hB0 dL_balances_246 hl (by decide) rfl (fun ls hl => ?_)
                                  refine lv_iinc (v := zI 4) (lv' := [(14, .int (zI 4)), (13, .int (zI ((((0 + (kRr p a b q 0)) + (kRr p a b q 1)) + (kRr p a b q 2)) + (kRr p a b q 3)))), (12, .int (zI 0)), (11, .int (zI ((T q : Int)))), (0, .ref o), (1, .int (zI p)), (2, .int (zI 0)), (3, .int (zI 1)), (4, .int (zI ((ztop a) * (ztop b)))), (5, .int (zI near)), (6, .int (zI far)), (7, .int (zI many)), (8, .int (zI most)), (9, .int (zI first)), (10, .int (zI q))]) hX0 hB0 dL_balances_248 hl (k := 1) rfl (by decide) (by decide) rfl (fun ls hl => ?_)
                                  refine lv_goto (tgt := 227) hX0 hB0 dL_balances_251 (by decide) ?_
                                  refine lv_iload hX0 hB0 dL_balances_227 (lv_at hl 0 rfl) ?_
                                  refine lv_iconst (v := zI 4) hX0 hB0 dL_balances_229 rfl ?_
                                  refine z_icmp_ge (tgt := 254) CX dL_balances_230 (by decide) (by constructor <;> omega) (by constructor <;> omega) (fun c_230 => ?_) (fun c_230 => ?_)
                                  ·
                                    refine lv_aload_n hX0 hB0 dL_balances_254 rfl (lv_at hl 4 rfl) ?_
                                    refine lv_iload_n hX0 hB0 dL_balances_255 rfl (lv_at hl 6 rfl) ?_
                                    refine lv_iload_n hX0 hB0 dL_balances_256 rfl (lv_at hl 7 rfl) ?_
                                    refine lv_iload hX0 hB0 dL_balances_257 (lv_at hl 14 rfl) ?_
                                    refine lv_iconst (v := zI 0) hX0 hB0 dL_balances_259 rfl ?_
                                    refine z_calli hW (va_runV (C := RX11) (As := [.int (zI 0), .int (zI 1), .int (zI q), .int (zI 0)]) (rest := []) CX.fix (zd_rules l (f := g34) o N34 0 1 q 0 hP34 hC34 (by omega) (by omega) (by omega) (by omega)) (cwV 4 CX.fix.2.2.2.2 gL_balances_X11_rules rfl rfl rfl (by decide +kernel) ⟨Nat.le_of_ble_eq_true rfl, Nat.le_of_ble_eq_true rfl⟩) (z_preV CX hW (r := (RX11, TX11, 13)) (show g34 o = _ from hP34.c0) rfl) rfl rfl hl.1 rfl (lv_room (Nat.le_of_ble_eq_true rfl)) dL_balances_260 ⟨by show _ ≤ 0; omega, by show _ ≤ 0; omega⟩) (fun zv gn H locs hok260 hW => ?_)
                                    obtain ⟨ez, hP35, hC35, hF35, hV35, hR35⟩ := hok260
                                    have ev35 : (zc_rules N34 0 1 q 0).1 = kRr p a b q 0 := nA_rules hz34 (zPr_2 hpr) hT hzq (by omega)
                                    rw [ez, ev35]
                                    clear ez ev35
                                    obtain ⟨N35, eN35⟩ : ∃ Z9, Z9 = (zc_rules N34 0 1 q 0).2 := ⟨_, rfl⟩
                                    rw [← eN35] at hP35 hC35 hV35
                                    clear eN35
                                    obtain ⟨g35, eg35⟩ : ∃ q, q = gn := ⟨_, rfl⟩
                                    rw [← eg35] at hW hP35 hF35
                                    clear eg35
                                    have hz35 : zP2 N35 p a b := hz34.ve hV35
                                    have hG35 : zFr f g35 o (o + 681) := zFr.tr2 hG34 hF35
                                    refine lv_iconst (v := zI 1) hX0 hB0 dL_balances_263 rfl ?_
                                    refine z_icmp_ne (tgt := 296) CX dL_balances_264 (by decide) (by constructor <;> omega) (by constructor <;> omega) (fun c_264 => ?_) (fun c_264 => ?_)
                                    ·
                                      omega
                                    ·
                                      refine lv_aload_n hX0 hB0 dL_balances_267 rfl (lv_at hl 4 rfl) ?_
                                      refine lv_iload_n hX0 hB0 dL_balances_268 rfl (lv_at hl 6 rfl) ?_
                                      refine lv_iload_n hX0 hB0 dL_balances_269 rfl (lv_at hl 7 rfl) ?_
                                      refine lv_iload hX0 hB0 dL_balances_270 (lv_at hl 14 rfl) ?_
                                      refine lv_iload hX0 hB0 dL_balances_272 (lv_at hl 1 rfl) ?_
                                      refine lv_iconst (v := zI 1) hX0 hB0 dL_balances_274 rfl ?_
                                      refine z_isub (z := ((((0 + (kRr p a b q 0)) + (kRr p a b q 1)) + (kRr p a b q 2)) + (kRr p a b q 3)) - 1) CX dL_balances_275 rfl ?_
                                      refine z_calli hW (va_runV (C := RX11) (As := [.int (zI 0), .int (zI 1), .int (zI q), .int (zI (((((0 + (kRr p a b q 0)) + (kRr p a b q 1)) + (kRr p a b q 2)) + (kRr p a b q 3)) - 1))]) (rest := []) CX.fix (zd_rule l (f := g35) o N35 0 1 q (((((0 + (kRr p a b q 0)) + (kRr p a b q 1)) + (kRr p a b q 2)) + (kRr p a b q 3)) - 1) hP35 hC35 (by omega) (by omega) (by omega) (by omega)) (cwV 4 CX.fix.2.2.2.2 gL_balances_X11_rule rfl rfl rfl (by decide +kernel) ⟨Nat.le_of_ble_eq_true rfl, Nat.le_of_ble_eq_true rfl⟩) (z_preV CX hW (r := (RX11, TX11, 13)) (show g35 o = _ from hP35.c0) rfl) rfl rfl hl.1 rfl (lv_room (Nat.le_of_ble_eq_true rfl)) dL_balances_276 ⟨by show _ ≤ 0; omega, by show _ ≤ 0; omega⟩) (fun zv gn H locs hok276 hW => ?_)
                                      obtain ⟨ez, hP36, hC36, hF36, hV36, hR36⟩ := hok276
                                      have ev36 : (zc_rule N35 0 1 q (((((0 + (kRr p a b q 0)) + (kRr p a b q 1)) + (kRr p a b q 2)) + (kRr p a b q 3)) - 1)).1 = 0 := (by rw [show ((((0 + (kRr p a b q 0)) + (kRr p a b q 1)) + (kRr p a b q 2)) + (kRr p a b q 3)) - 1 = kRs p a b q - 1 by omega]; exact (nA_rule hz35 hpr ha hb (by omega) (by omega) hT hzq).1)
                                      rw [ez, ev36]
                                      clear ez ev36
                                      obtain ⟨N36, eN36⟩ : ∃ Z9, Z9 = (zc_rule N35 0 1 q (((((0 + (kRr p a b q 0)) + (kRr p a b q 1)) + (kRr p a b q 2)) + (kRr p a b q 3)) - 1)).2 := ⟨_, rfl⟩
                                      rw [← eN36] at hP36 hC36 hV36
                                      clear eN36
                                      obtain ⟨g36, eg36⟩ : ∃ q, q = gn := ⟨_, rfl⟩
                                      rw [← eg36] at hW hP36 hF36
                                      clear eg36
                                      have hz36 : zP2 N36 p a b := hz35.ve hV36
                                      have hG36 : zFr f g36 o (o + 681) := zFr.tr2 hG35 hF36
                                      refine z_if_ne (tgt := 296) CX dL_balances_279 (by decide) (by constructor <;> omega) (fun c_279 => ?_) (fun c_279 => ?_)
                                      ·
                                        omega
                                      ·
                                        refine lv_aload_n hX0 hB0 dL_balances_282 rfl (lv_at hl 4 rfl) ?_
                                        refine lv_iload_n hX0 hB0 dL_balances_283 rfl (lv_at hl 6 rfl) ?_
                                        refine lv_iload_n hX0 hB0 dL_balances_284 rfl (lv_at hl 7 rfl) ?_
                                        refine lv_iload hX0 hB0 dL_balances_285 (lv_at hl 14 rfl) ?_
                                        refine lv_iload hX0 hB0 dL_balances_287 (lv_at hl 1 rfl) ?_
                                        refine z_calli hW (va_runV (C := RX11) (As := [.int (zI 0), .int (zI 1), .int (zI q), .int (zI ((((0 + (kRr p a b q 0)) + (kRr p a b q 1)) + (kRr p a b q 2)) + (kRr p a b q 3)))]) (rest := []) CX.fix (zd_rule l (f := g36) o N36 0 1 q ((((0 + (kRr p a b q 0)) + (kRr p a b q 1)) + (kRr p a b q 2)) + (kRr p a b q 3)) hP36 hC36 (by omega) (by omega) (by omega) (by omega)) (cwV 4 CX.fix.2.2.2.2 gL_balances_X11_rule rfl rfl rfl (by decide +kernel) ⟨Nat.le_of_ble_eq_true rfl, Nat.le_of_ble_eq_true rfl⟩) (z_preV CX hW (r := (RX11, TX11, 13)) (show g36 o = _ from hP36.c0) rfl) rfl rfl hl.1 rfl (lv_room (Nat.le_of_ble_eq_true rfl)) dL_balances_289 ⟨by show _ ≤ 0; omega, by show _ ≤ 0; omega⟩) (fun zv gn H locs hok289 hW => ?_)
                                        obtain ⟨ez, hP37, hC37, hF37, hV37, hR37⟩ := hok289
                                        have ev37 : (zc_rule N36 0 1 q ((((0 + (kRr p a b q 0)) + (kRr p a b q 1)) + (kRr p a b q 2)) + (kRr p a b q 3))).1 = -1 := (by rw [show (((0 + (kRr p a b q 0)) + (kRr p a b q 1)) + (kRr p a b q 2)) + (kRr p a b q 3) = kRs p a b q by omega]; exact (nA_rule hz36 hpr ha hb (by omega) (by omega) hT hzq).2)
                                        rw [ez, ev37]
                                        clear ez ev37
                                        obtain ⟨N37, eN37⟩ : ∃ Z9, Z9 = (zc_rule N36 0 1 q ((((0 + (kRr p a b q 0)) + (kRr p a b q 1)) + (kRr p a b q 2)) + (kRr p a b q 3))).2 := ⟨_, rfl⟩
                                        rw [← eN37] at hP37 hC37 hV37
                                        clear eN37
                                        obtain ⟨g37, eg37⟩ : ∃ q, q = gn := ⟨_, rfl⟩
                                        rw [← eg37] at hW hP37 hF37
                                        clear eg37
                                        have hz37 : zP2 N37 p a b := hz36.ve hV37
                                        have hG37 : zFr f g37 o (o + 681) := zFr.tr2 hG36 hF37
                                        refine lv_iconst (v := zI (-1)) hX0 hB0 dL_balances_292 rfl ?_
                                        refine z_icmp_eq (tgt := 298) CX dL_balances_293 (by decide) (by constructor <;> omega) (by constructor <;> omega) (fun c_293 => ?_) (fun c_293 => ?_)
                                        ·
                                          refine lv_iload hX0 hB0 dL_balances_298 (lv_at hl 2 rfl) ?_
                                          refine z_if_ne (tgt := 306) CX dL_balances_300 (by decide) (by constructor <;> omega) (fun c_300 => ?_) (fun c_300 => ?_)
                                          ·
                                            omega
                                          ·
                                            refine lv_goto (tgt := 384) hX0 hB0 dL_balances_303 (by decide) ?_
                                            refine lv_iinc (v := zI (q + 1)) (lv' := [(10, .int (zI (q + 1))), (14, .int (zI 4)), (13, .int (zI ((((0 + (kRr p a b q 0)) + (kRr p a b q 1)) + (kRr p a b q 2)) + (kRr p a b q 3)))), (12, .int (zI 0)), (11, .int (zI ((T q : Int)))), (0, .ref o), (1, .int (zI p)), (2, .int (zI 0)), (3, .int (zI 1)), (4, .int (zI ((ztop a) * (ztop b)))), (5, .int (zI near)), (6, .int (zI far)), (7, .int (zI many)), (8, .int (zI most)), (9, .int (zI first))]) hX0 hB0 dL_balances_384 hl (k := 14) rfl (zI_add _ _) (by decide) rfl (fun ls hl => ?_)
                                            refine lv_goto (tgt := 97) hX0 hB0 dL_balances_387 (by decide) ?_
                                            exact ih97 g37 N37 near far many most first (q + 1) Lx ⟨hP37, hC37, hz37, hG37, by omega, by
                                              have z := hBI.s (by omega)
                                              have e1 : (if q < p * p then near + (T q : Int) else near) = near := by split <;> omega
                                              have e2 : (if q < p * p then far else far + (T q : Int)) = far := by split <;> omega
                                              have e3 : (if 0 < T q then many + 1 else many) = many := by split <;> omega
                                              have e4 : (if (T q : Int) ≤ most then most else (T q : Int)) = most := by split <;> omega
                                              have e5 : (if (T q : Int) ≤ most then first else q) = first := by split <;> omega
                                              rw [e1, e2, e3, e4, e5] at z
                                              exact z, by omega, by omega, by omega⟩ (by omega) H locs ls hW (lv_sub hl [5, 6, 7, 8, 9, 10, 11, 12, 13, 14, 0] rfl)
                                        ·
                                          omega
                                  ·
                                    omega
                        ·
                          omega
                      ·
                        omega
                ·
                  omega
            ·
              refine lv_iconst (v := zI 1) hX0 hB0 dL_balances_139 rfl ?_
              refine lv_goto (tgt := 144) hX0 hB0 dL_balances_140 (by decide) ?_
              refine lv_istore (lv' := [(12, .int (zI 1)), (11, .int (zI ((T q : Int)))), (0, .ref o), (1, .int (zI p)), (2, .int (zI 0)), (3, .int (zI 1)), (4, .int (zI ((ztop a) * (ztop b)))), (5, .int (zI near)), (6, .int (zI far)), (7, .int (zI many)), (8, .int (zI most)), (9, .int (zI first)), (10, .int (zI q))]) hX0 hB0 dL_balances_144 hl (by decide) rfl (fun ls hl => ?_)
              refine lv_iload hX0 hB0 dL_balances_146 (lv_at hl 1 rfl) ?_
              refine z_if_lt (tgt := 199) CX dL_balances_148 (by decide) (by constructor <;> omega) (fun c_148 => ?_) (fun c_148 => ?_)
              ·
                omega
              ·
                refine lv_iload hX0 hB0 dL_balances_151 (lv_at hl 0 rfl) ?_
                refine lv_iload hX0 hB0 dL_balances_153 (lv_at hl 1 rfl) ?_
                refine z_if_le (tgt := 162) CX dL_balances_155 (by decide) (by constructor <;> omega) (fun c_155 => ?_) (fun c_155 => ?_)
                ·
                  omega
                ·
                  refine lv_iconst (v := zI 1) hX0 hB0 dL_balances_158 rfl ?_
                  refine lv_goto (tgt := 163) hX0 hB0 dL_balances_159 (by decide) ?_
                  refine z_icmp_ne (tgt := 199) CX dL_balances_163 (by decide) (by constructor <;> omega) (by constructor <;> omega) (fun c_163 => ?_) (fun c_163 => ?_)
                  ·
                    omega
                  ·
                    refine lv_iload hX0 hB0 dL_balances_166 (lv_at hl 1 rfl) ?_
                    refine lv_aload_n hX0 hB0 dL_balances_168 rfl (lv_at hl 2 rfl) ?_
                    refine lv_iload_n hX0 hB0 dL_balances_169 rfl (lv_at hl 4 rfl) ?_
                    refine lv_iload hX0 hB0 dL_balances_170 (lv_at hl 12 rfl) ?_
                    refine z_calli hW (va_runV (C := RX11) (As := [.int (zI 0), .int (zI q)]) (rest := [.int (zI ((T q : Int)))]) CX.fix (zd_order l (f := g27) o N27 0 q hP27 hC27 (by omega) (by omega)) (cwV 2 CX.fix.2.2.2.2 gL_balances_X11_order rfl rfl rfl (by decide +kernel) ⟨Nat.le_of_ble_eq_true rfl, Nat.le_of_ble_eq_true rfl⟩) (z_preV CX hW (r := (RX11, TX11, 13)) (show g27 o = _ from hP27.c0) rfl) rfl rfl hl.1 rfl (lv_room (Nat.le_of_ble_eq_true rfl)) dL_balances_172 ⟨by show _ ≤ 0; omega, by show _ ≤ 0; omega⟩) (fun zv gn H locs hok172 hW => ?_)
                    obtain ⟨ez, hP38, hC38, hF38, hV38, hR38⟩ := hok172
                    have ev38 : (zc_order N27 0 q).1 = zleast (zlook a p (zpx q p) (zpy q p) (zpz q p)) := nA_order hz27 (zPr_2 hpr) (Or.inl rfl) hzq
                    rw [ez, ev38]
                    clear ez ev38
                    obtain ⟨N38, eN38⟩ : ∃ Z9, Z9 = (zc_order N27 0 q).2 := ⟨_, rfl⟩
                    rw [← eN38] at hP38 hC38 hV38
                    clear eN38
                    obtain ⟨g38, eg38⟩ : ∃ q, q = gn := ⟨_, rfl⟩
                    rw [← eg38] at hW hP38 hF38
                    clear eg38
                    have hz38 : zP2 N38 p a b := hz27.ve hV38
                    have hG38 : zFr f g38 o (o + 681) := zFr.tr2 hG27 hF38
                    refine lv_aload_n hX0 hB0 dL_balances_175 rfl (lv_at hl 2 rfl) ?_
                    refine lv_iload_n hX0 hB0 dL_balances_176 rfl (lv_at hl 5 rfl) ?_
                    refine lv_iload hX0 hB0 dL_balances_177 (lv_at hl 12 rfl) ?_
                    refine z_calli hW (va_runV (C := RX11) (As := [.int (zI 1), .int (zI q)]) (rest := [.int (zI (zleast (zlook a p (zpx q p) (zpy q p) (zpz q p)))), .int (zI ((T q : Int)))]) CX.fix (zd_order l (f := g38) o N38 1 q hP38 hC38 (by omega) (by omega)) (cwV 2 CX.fix.2.2.2.2 gL_balances_X11_order rfl rfl rfl (by decide +kernel) ⟨Nat.le_of_ble_eq_true rfl, Nat.le_of_ble_eq_true rfl⟩) (z_preV CX hW (r := (RX11, TX11, 13)) (show g38 o = _ from hP38.c0) rfl) rfl rfl hl.1 rfl (lv_room (Nat.le_of_ble_eq_true rfl)) dL_balances_179 ⟨by show _ ≤ 0; omega, by show _ ≤ 0; omega⟩) (fun zv gn H locs hok179 hW => ?_)
                    obtain ⟨ez, hP39, hC39, hF39, hV39, hR39⟩ := hok179
                    have ev39 : (zc_order N38 1 q).1 = zleast (zlook b p (zpx q p) (zpy q p) (zpz q p)) := nA_order hz38 (zPr_2 hpr) (Or.inr rfl) hzq
                    rw [ez, ev39]
                    clear ez ev39
                    obtain ⟨N39, eN39⟩ : ∃ Z9, Z9 = (zc_order N38 1 q).2 := ⟨_, rfl⟩
                    rw [← eN39] at hP39 hC39 hV39
                    clear eN39
                    obtain ⟨g39, eg39⟩ : ∃ q, q = gn := ⟨_, rfl⟩
                    rw [← eg39] at hW hP39 hF39
                    clear eg39
                    have hz39 : zP2 N39 p a b := hz38.ve hV39
                    have hG39 : zFr f g39 o (o + 681) := zFr.tr2 hG38 hF39
                    refine z_imul (z := (zleast (zlook a p (zpx q p) (zpy q p) (zpz q p))) * (zleast (zlook b p (zpx q p) (zpy q p) (zpz q p)))) CX dL_balances_182 rfl ?_
                    refine z_icmp_lt (tgt := 199) CX dL_balances_183 (by decide) (by constructor <;> omega) (by constructor <;> omega) (fun c_183 => ?_) (fun c_183 => ?_)
                    ·
                      omega
                    ·
                      refine lv_iload hX0 hB0 dL_balances_186 (lv_at hl 1 rfl) ?_
                      refine lv_aload_n hX0 hB0 dL_balances_188 rfl (lv_at hl 2 rfl) ?_
                      refine lv_iload_n hX0 hB0 dL_balances_189 rfl (lv_at hl 5 rfl) ?_
                      refine lv_iload_n hX0 hB0 dL_balances_190 rfl (lv_at hl 4 rfl) ?_
                      refine lv_iload hX0 hB0 dL_balances_191 (lv_at hl 12 rfl) ?_
                      refine z_calli hW (va_runV (C := RX11) (As := [.int (zI 1), .int (zI 0), .int (zI q)]) (rest := [.int (zI ((T q : Int)))]) CX.fix (zd_times l (f := g39) o N39 1 0 q hP39 hC39 (by omega) (by omega) (by omega)) (cwV 3 CX.fix.2.2.2.2 gL_balances_X11_times rfl rfl rfl (by decide +kernel) ⟨Nat.le_of_ble_eq_true rfl, Nat.le_of_ble_eq_true rfl⟩) (z_preV CX hW (r := (RX11, TX11, 13)) (show g39 o = _ from hP39.c0) rfl) rfl rfl hl.1 rfl (lv_room (Nat.le_of_ble_eq_true rfl)) dL_balances_193 ⟨by show _ ≤ 0; omega, by show _ ≤ 0; omega⟩) (fun zv gn H locs hok193 hW => ?_)
                      obtain ⟨ez, hP40, hC40, hF40, hV40, hR40⟩ := hok193
                      have ev40 : (zc_times N39 1 0 q).1 = (T q : Int) := nA_times10 hz39 (zPr_2 hpr) hT hzq
                      rw [ez, ev40] at hR40
                      rw [ez, ev40]
                      clear ez ev40
                      obtain ⟨N40, eN40⟩ : ∃ Z9, Z9 = (zc_times N39 1 0 q).2 := ⟨_, rfl⟩
                      rw [← eN40] at hP40 hC40 hV40
                      clear eN40
                      obtain ⟨g40, eg40⟩ : ∃ q, q = gn := ⟨_, rfl⟩
                      rw [← eg40] at hW hP40 hF40
                      clear eg40
                      have hz40 : zP2 N40 p a b := hz39.ve hV40
                      have hG40 : zFr f g40 o (o + 681) := zFr.tr2 hG39 hF40
                      refine z_icmp_eq (tgt := 201) CX dL_balances_196 (by decide) (by constructor <;> omega) (by constructor <;> omega) (fun c_196 => ?_) (fun c_196 => ?_)
                      ·
                        refine lv_iload hX0 hB0 dL_balances_201 (lv_at hl 0 rfl) ?_
                        refine z_if_eq (tgt := 221) CX dL_balances_203 (by decide) (by constructor <;> omega) (fun c_203 => ?_) (fun c_203 => ?_)
                        ·
                          omega
                        ·
                          refine lv_iload hX0 hB0 dL_balances_206 (lv_at hl 1 rfl) ?_
                          refine lv_aload_n hX0 hB0 dL_balances_208 rfl (lv_at hl 2 rfl) ?_
                          refine lv_iload_n hX0 hB0 dL_balances_209 rfl (lv_at hl 4 rfl) ?_
                          refine lv_iload_n hX0 hB0 dL_balances_210 rfl (lv_at hl 5 rfl) ?_
                          refine lv_iload hX0 hB0 dL_balances_211 (lv_at hl 12 rfl) ?_
                          refine z_calli hW (va_runV (C := RX11) (As := [.int (zI 0), .int (zI 1), .int (zI q)]) (rest := [.int (zI ((T q : Int)))]) CX.fix (zd_size l (f := g40) o N40 0 1 q hP40 hC40 (by omega) (by omega) (by omega)) (cwV 3 CX.fix.2.2.2.2 gL_balances_X11_size rfl rfl rfl (by decide +kernel) ⟨Nat.le_of_ble_eq_true rfl, Nat.le_of_ble_eq_true rfl⟩) (z_preV CX hW (r := (RX11, TX11, 13)) (show g40 o = _ from hP40.c0) rfl) rfl rfl hl.1 rfl (lv_room (Nat.le_of_ble_eq_true rfl)) dL_balances_213 ⟨by show _ ≤ 0; omega, by show _ ≤ 0; omega⟩) (fun zv gn H locs hok213 hW => ?_)
                          obtain ⟨ez, hP41, hC41, hF41, hV41, hR41⟩ := hok213
                          have ev41 : (zc_size N40 0 1 q).1 = (T q : Int) := (nA_size hz40 (zPr_2 hpr) (k := 0) (j := 1) (Or.inl rfl) (Or.inr rfl) hzq).trans (hT.1 q hzq).2.2.1
                          rw [ez, ev41]
                          clear ez ev41
                          obtain ⟨N41, eN41⟩ : ∃ Z9, Z9 = (zc_size N40 0 1 q).2 := ⟨_, rfl⟩
                          rw [← eN41] at hP41 hC41 hV41
                          clear eN41
                          obtain ⟨g41, eg41⟩ : ∃ q, q = gn := ⟨_, rfl⟩
                          rw [← eg41] at hW hP41 hF41
                          clear eg41
                          have hz41 : zP2 N41 p a b := hz40.ve hV41
                          have hG41 : zFr f g41 o (o + 681) := zFr.tr2 hG40 hF41
                          refine z_icmp_eq (tgt := 221) CX dL_balances_216 (by decide) (by constructor <;> omega) (by constructor <;> omega) (fun c_216 => ?_) (fun c_216 => ?_)
                          ·
                            refine lv_iconst (v := zI 0) hX0 hB0 dL_balances_221 rfl ?_
                            refine lv_istore (lv' := [(13, .int (zI 0)), (12, .int (zI 1)), (11, .int (zI ((T q : Int)))), (0, .ref o), (1, .int (zI p)), (2, .int (zI 0)), (3, .int (zI 1)), (4, .int (zI ((ztop a) * (ztop b)))), (5, .int (zI near)), (6, .int (zI far)), (7, .int (zI many)), (8, .int (zI most)), (9, .int (zI first)), (10, .int (zI q))]) hX0 hB0 dL_balances_222 hl (by decide) rfl (fun ls hl => ?_)
                            refine lv_iconst (v := zI 0) hX0 hB0 dL_balances_224 rfl ?_
                            refine lv_istore (lv' := [(14, .int (zI 0)), (13, .int (zI 0)), (12, .int (zI 1)), (11, .int (zI ((T q : Int)))), (0, .ref o), (1, .int (zI p)), (2, .int (zI 0)), (3, .int (zI 1)), (4, .int (zI ((ztop a) * (ztop b)))), (5, .int (zI near)), (6, .int (zI far)), (7, .int (zI many)), (8, .int (zI most)), (9, .int (zI first)), (10, .int (zI q))]) hX0 hB0 dL_balances_225 hl (by decide) rfl (fun ls hl => ?_)
                            refine lv_iload hX0 hB0 dL_balances_227 (lv_at hl 0 rfl) ?_
                            refine lv_iconst (v := zI 4) hX0 hB0 dL_balances_229 rfl ?_
                            refine z_icmp_ge (tgt := 254) CX dL_balances_230 (by decide) (by constructor <;> omega) (by constructor <;> omega) (fun c_230 => ?_) (fun c_230 => ?_)
                            ·
                              omega
                            ·
                              refine lv_iload hX0 hB0 dL_balances_233 (lv_at hl 1 rfl) ?_
                              refine lv_aload_n hX0 hB0 dL_balances_235 rfl (lv_at hl 4 rfl) ?_
                              refine lv_iload_n hX0 hB0 dL_balances_236 rfl (lv_at hl 6 rfl) ?_
                              refine lv_iload_n hX0 hB0 dL_balances_237 rfl (lv_at hl 7 rfl) ?_
                              refine lv_iload hX0 hB0 dL_balances_238 (lv_at hl 14 rfl) ?_
                              refine lv_iload hX0 hB0 dL_balances_240 (lv_at hl 0 rfl) ?_
                              refine z_calli hW (va_runV (C := RX11) (As := [.int (zI 0), .int (zI 1), .int (zI q), .int (zI 0)]) (rest := [.int (zI 0)]) CX.fix (zd_rules l (f := g41) o N41 0 1 q 0 hP41 hC41 (by omega) (by omega) (by omega) (by omega)) (cwV 4 CX.fix.2.2.2.2 gL_balances_X11_rules rfl rfl rfl (by decide +kernel) ⟨Nat.le_of_ble_eq_true rfl, Nat.le_of_ble_eq_true rfl⟩) (z_preV CX hW (r := (RX11, TX11, 13)) (show g41 o = _ from hP41.c0) rfl) rfl rfl hl.1 rfl (lv_room (Nat.le_of_ble_eq_true rfl)) dL_balances_242 ⟨by show _ ≤ 0; omega, by show _ ≤ 0; omega⟩) (fun zv gn H locs hok242 hW => ?_)
                              obtain ⟨ez, hP42, hC42, hF42, hV42, hR42⟩ := hok242
                              have ev42 : (zc_rules N41 0 1 q 0).1 = kRr p a b q 0 := nA_rules hz41 (zPr_2 hpr) hT hzq (by omega)
                              rw [ez, ev42]
                              clear ez ev42
                              obtain ⟨N42, eN42⟩ : ∃ Z9, Z9 = (zc_rules N41 0 1 q 0).2 := ⟨_, rfl⟩
                              rw [← eN42] at hP42 hC42 hV42
                              clear eN42
                              obtain ⟨g42, eg42⟩ : ∃ q, q = gn := ⟨_, rfl⟩
                              rw [← eg42] at hW hP42 hF42
                              clear eg42
                              have hz42 : zP2 N42 p a b := hz41.ve hV42
                              have hG42 : zFr f g42 o (o + 681) := zFr.tr2 hG41 hF42
                              refine z_iadd (z := 0 + (kRr p a b q 0)) CX dL_balances_245 rfl ?_
                              refine lv_istore (lv' := [(13, .int (zI (0 + (kRr p a b q 0)))), (14, .int (zI 0)), (12, .int (zI 1)), (11, .int (zI ((T q : Int)))), (0, .ref o), (1, .int (zI p)), (2, .int (zI 0)), (3, .int (zI 1)), (4, .int (zI ((ztop a) * (ztop b)))), (5, .int (zI near)), (6, .int (zI far)), (7, .int (zI many)), (8, .int (zI most)), (9, .int (zI first)), (10, .int (zI q))]) hX0 hB0 dL_balances_246 hl (by decide) rfl (fun ls hl => ?_)
                              refine lv_iinc (v := zI 1) (lv' := [(14, .int (zI 1)), (13, .int (zI (0 + (kRr p a b q 0)))), (12, .int (zI 1)), (11, .int (zI ((T q : Int)))), (0, .ref o), (1, .int (zI p)), (2, .int (zI 0)), (3, .int (zI 1)), (4, .int (zI ((ztop a) * (ztop b)))), (5, .int (zI near)), (6, .int (zI far)), (7, .int (zI many)), (8, .int (zI most)), (9, .int (zI first)), (10, .int (zI q))]) hX0 hB0 dL_balances_248 hl (k := 1) rfl (by decide) (by decide) rfl (fun ls hl => ?_)
                              refine lv_goto (tgt := 227) hX0 hB0 dL_balances_251 (by decide) ?_
                              refine lv_iload hX0 hB0 dL_balances_227 (lv_at hl 0 rfl) ?_
                              refine lv_iconst (v := zI 4) hX0 hB0 dL_balances_229 rfl ?_
                              refine z_icmp_ge (tgt := 254) CX dL_balances_230 (by decide) (by constructor <;> omega) (by constructor <;> omega) (fun c_230 => ?_) (fun c_230 => ?_)
                              ·
                                omega
                              ·
                                refine lv_iload hX0 hB0 dL_balances_233 (lv_at hl 1 rfl) ?_
                                refine lv_aload_n hX0 hB0 dL_balances_235 rfl (lv_at hl 4 rfl) ?_
                                refine lv_iload_n hX0 hB0 dL_balances_236 rfl (lv_at hl 6 rfl) ?_
                                refine lv_iload_n hX0 hB0 dL_balances_237 rfl (lv_at hl 7 rfl) ?_
                                refine lv_iload hX0 hB0 dL_balances_238 (lv_at hl 14 rfl) ?_
                                refine lv_iload hX0 hB0 dL_balances_240 (lv_at hl 0 rfl) ?_
                                refine z_calli hW (va_runV (C := RX11) (As := [.int (zI 0), .int (zI 1), .int (zI q), .int (zI 1)]) (rest := [.int (zI (0 + (kRr p a b q 0)))]) CX.fix (zd_rules l (f := g42) o N42 0 1 q 1 hP42 hC42 (by omega) (by omega) (by omega) (by omega)) (cwV 4 CX.fix.2.2.2.2 gL_balances_X11_rules rfl rfl rfl (by decide +kernel) ⟨Nat.le_of_ble_eq_true rfl, Nat.le_of_ble_eq_true rfl⟩) (z_preV CX hW (r := (RX11, TX11, 13)) (show g42 o = _ from hP42.c0) rfl) rfl rfl hl.1 rfl (lv_room (Nat.le_of_ble_eq_true rfl)) dL_balances_242 ⟨by show _ ≤ 0; omega, by show _ ≤ 0; omega⟩) (fun zv gn H locs hok242 hW => ?_)
                                obtain ⟨ez, hP43, hC43, hF43, hV43, hR43⟩ := hok242
                                have ev43 : (zc_rules N42 0 1 q 1).1 = kRr p a b q 1 := nA_rules hz42 (zPr_2 hpr) hT hzq (by omega)
                                rw [ez, ev43]
                                clear ez ev43
                                obtain ⟨N43, eN43⟩ : ∃ Z9, Z9 = (zc_rules N42 0 1 q 1).2 := ⟨_, rfl⟩
                                rw [← eN43] at hP43 hC43 hV43
                                clear eN43
                                obtain ⟨g43, eg43⟩ : ∃ q, q = gn := ⟨_, rfl⟩
                                rw [← eg43] at hW hP43 hF43
                                clear eg43
                                have hz43 : zP2 N43 p a b := hz42.ve hV43
                                have hG43 : zFr f g43 o (o + 681) := zFr.tr2 hG42 hF43
                                refine z_iadd (z := (0 + (kRr p a b q 0)) + (kRr p a b q 1)) CX dL_balances_245 rfl ?_
                                refine lv_istore (lv' := [(13, .int (zI ((0 + (kRr p a b q 0)) + (kRr p a b q 1)))), (14, .int (zI 1)), (12, .int (zI 1)), (11, .int (zI ((T q : Int)))), (0, .ref o), (1, .int (zI p)), (2, .int (zI 0)), (3, .int (zI 1)), (4, .int (zI ((ztop a) * (ztop b)))), (5, .int (zI near)), (6, .int (zI far)), (7, .int (zI many)), (8, .int (zI most)), (9, .int (zI first)), (10, .int (zI q))]) hX0 hB0 dL_balances_246 hl (by decide) rfl (fun ls hl => ?_)
                                refine lv_iinc (v := zI 2) (lv' := [(14, .int (zI 2)), (13, .int (zI ((0 + (kRr p a b q 0)) + (kRr p a b q 1)))), (12, .int (zI 1)), (11, .int (zI ((T q : Int)))), (0, .ref o), (1, .int (zI p)), (2, .int (zI 0)), (3, .int (zI 1)), (4, .int (zI ((ztop a) * (ztop b)))), (5, .int (zI near)), (6, .int (zI far)), (7, .int (zI many)), (8, .int (zI most)), (9, .int (zI first)), (10, .int (zI q))]) hX0 hB0 dL_balances_248 hl (k := 1) rfl (by decide) (by decide) rfl (fun ls hl => ?_)
                                refine lv_goto (tgt := 227) hX0 hB0 dL_balances_251 (by decide) ?_
                                refine lv_iload hX0 hB0 dL_balances_227 (lv_at hl 0 rfl) ?_
                                refine lv_iconst (v := zI 4) hX0 hB0 dL_balances_229 rfl ?_
                                refine z_icmp_ge (tgt := 254) CX dL_balances_230 (by decide) (by constructor <;> omega) (by constructor <;> omega) (fun c_230 => ?_) (fun c_230 => ?_)
                                ·
                                  omega
                                ·
                                  refine lv_iload hX0 hB0 dL_balances_233 (lv_at hl 1 rfl) ?_
                                  refine lv_aload_n hX0 hB0 dL_balances_235 rfl (lv_at hl 4 rfl) ?_
                                  refine lv_iload_n hX0 hB0 dL_balances_236 rfl (lv_at hl 6 rfl) ?_
                                  refine lv_iload_n hX0 hB0 dL_balances_237 rfl (lv_at hl 7 rfl) ?_
                                  refine lv_iload hX0 hB0 dL_balances_238 (lv_at hl 14 rfl) ?_
                                  refine lv_iload hX0 hB0 dL_balances_240 (lv_at hl 0 rfl) ?_
                                  refine z_calli hW (va_runV (C := RX11) (As := [.int (zI 0), .int (zI 1), .int (zI q), .int (zI 2)]) (rest := [.int (zI ((0 + (kRr p a b q 0)) + (kRr p a b q 1)))]) CX.fix (zd_rules l (f := g43) o N43 0 1 q 2 hP43 hC43 (by omega) (by omega) (by omega) (by omega)) (cwV 4 CX.fix.2.2.2.2 gL_balances_X11_rules rfl rfl rfl (by decide +kernel) ⟨Nat.le_of_ble_eq_true rfl, Nat.le_of_ble_eq_true rfl⟩) (z_preV CX hW (r := (RX11, TX11, 13)) (show g43 o = _ from hP43.c0) rfl) rfl rfl hl.1 rfl (lv_room (Nat.le_of_ble_eq_true rfl)) dL_balances_242 ⟨by show _ ≤ 0; omega, by show _ ≤ 0; omega⟩) (fun zv gn H locs hok242 hW => ?_)
                                  obtain ⟨ez, hP44, hC44, hF44, hV44, hR44⟩ := hok242
                                  have ev44 : (zc_rules N43 0 1 q 2).1 = kRr p a b q 2 := nA_rules hz43 (zPr_2 hpr) hT hzq (by omega)
                                  rw [ez, ev44]
                                  clear ez ev44
                                  obtain ⟨N44, eN44⟩ : ∃ Z9, Z9 = (zc_rules N43 0 1 q 2).2 := ⟨_, rfl⟩
                                  rw [← eN44] at hP44 hC44 hV44
                                  clear eN44
                                  obtain ⟨g44, eg44⟩ : ∃ q, q = gn := ⟨_, rfl⟩
                                  rw [← eg44] at hW hP44 hF44
                                  clear eg44
                                  have hz44 : zP2 N44 p a b := hz43.ve hV44
                                  have hG44 : zFr f g44 o (o + 681) := zFr.tr2 hG43 hF44
                                  refine z_iadd (z := ((0 + (kRr p a b q 0)) + (kRr p a b q 1)) + (kRr p a b q 2)) CX dL_balances_245 rfl ?_
                                  refine lv_istore (lv' := [(13, .int (zI (((0 + (kRr p a b q 0)) + (kRr p a b q 1)) + (kRr p a b q 2)))), (14, .int (zI 2)), (12, .int (zI 1)), (11, .int (zI ((T q : Int)))), (0, .ref o), (1, .int (zI p)), (2, .int (zI 0)), (3, .int (zI 1)), (4, .int (zI ((ztop a) * (ztop b)))), (5, .int (zI near)), (6, .int (zI far)), (7, .int (zI many)), (8, .int (zI most)), (9, .int (zI first)), (10, .int (zI q))]) hX0 hB0 dL_balances_246 hl (by decide) rfl (fun ls hl => ?_)
                                  refine lv_iinc (v := zI 3) (lv' := [(14, .int (zI 3)), (13, .int (zI (((0 + (kRr p a b q 0)) + (kRr p a b q 1)) + (kRr p a b q 2)))), (12, .int (zI 1)), (11, .int (zI ((T q : Int)))), (0, .ref o), (1, .int (zI p)), (2, .int (zI 0)), (3, .int (zI 1)), (4, .int (zI ((ztop a) * (ztop b)))), (5, .int (zI near)), (6, .int (zI far)), (7, .int (zI many)), (8, .int (zI most)), (9, .int (zI first)), (10, .int (zI q))]) hX0 hB0 dL_balances_248 hl (k := 1) rfl (by decide) (by decide) rfl (fun ls hl => ?_)
                                  refine lv_goto (tgt := 227) hX0 hB0 dL_balances_251 (by decide) ?_
                                  refine lv_iload hX0 hB0 dL_balances_227 (lv_at hl 0 rfl) ?_
                                  refine lv_iconst (v := zI 4) hX0 hB0 dL_balances_229 rfl ?_
                                  refine z_icmp_ge (tgt := 254) CX dL_balances_230 (by decide) (by constructor <;> omega) (by constructor <;> omega) (fun c_230 => ?_) (fun c_230 => ?_)
                                  ·
                                    omega
                                  ·
                                    refine lv_iload hX0 hB0 dL_balances_233 (lv_at hl 1 rfl) ?_
                                    refine lv_aload_n hX0 hB0 dL_balances_235 rfl (lv_at hl 4 rfl) ?_
                                    refine lv_iload_n hX0 hB0 dL_balances_236 rfl (lv_at hl 6 rfl) ?_
                                    refine lv_iload_n hX0 hB0 dL_balances_237 rfl (lv_at hl 7 rfl) ?_
                                    refine lv_iload hX0 hB0 dL_balances_238 (lv_at hl 14 rfl) ?_
                                    refine lv_iload hX0 hB0 dL_balances_240 (lv_at hl 0 rfl) ?_
                                    refine z_calli hW (va_runV (C := RX11) (As := [.int (zI 0), .int (zI 1), .int (zI q), .int (zI 3)]) (rest := [.int (zI (((0 + (kRr p a b q 0)) + (kRr p a b q 1)) + (kRr p a b q 2)))]) CX.fix (zd_rules l (f := g44) o N44 0 1 q 3 hP44 hC44 (by omega) (by omega) (by omega) (by omega)) (cwV 4 CX.fix.2.2.2.2 gL_balances_X11_rules rfl rfl rfl (by decide +kernel) ⟨Nat.le_of_ble_eq_true rfl, Nat.le_of_ble_eq_true rfl⟩) (z_preV CX hW (r := (RX11, TX11, 13)) (show g44 o = _ from hP44.c0) rfl) rfl rfl hl.1 rfl (lv_room (Nat.le_of_ble_eq_true rfl)) dL_balances_242 ⟨by show _ ≤ 0; omega, by show _ ≤ 0; omega⟩) (fun zv gn H locs hok242 hW => ?_)
                                    obtain ⟨ez, hP45, hC45, hF45, hV45, hR45⟩ := hok242
                                    have ev45 : (zc_rules N44 0 1 q 3).1 = kRr p a b q 3 := nA_rules hz44 (zPr_2 hpr) hT hzq (by omega)
                                    rw [ez, ev45]
                                    clear ez ev45
                                    obtain ⟨N45, eN45⟩ : ∃ Z9, Z9 = (zc_rules N44 0 1 q 3).2 := ⟨_, rfl⟩
                                    rw [← eN45] at hP45 hC45 hV45
                                    clear eN45
                                    obtain ⟨g45, eg45⟩ : ∃ q, q = gn := ⟨_, rfl⟩
                                    rw [← eg45] at hW hP45 hF45
                                    clear eg45
                                    have hz45 : zP2 N45 p a b := hz44.ve hV45
                                    have hG45 : zFr f g45 o (o + 681) := zFr.tr2 hG44 hF45
                                    refine z_iadd (z := (((0 + (kRr p a b q 0)) + (kRr p a b q 1)) + (kRr p a b q 2)) + (kRr p a b q 3)) CX dL_balances_245 rfl ?_
                                    refine lv_istore (lv' := [(13, .int (zI ((((0 + (kRr p a b q 0)) + (kRr p a b q 1)) + (kRr p a b q 2)) + (kRr p a b q 3)))), (14, .int (zI 3)), (12, .int (zI 1)), (11, .int (zI ((T q : Int)))), (0, .ref o), (1, .int (zI p)), (2, .int (zI 0)), (3, .int (zI 1)), (4, .int (zI ((ztop a) * (ztop b)))), (5, .int (zI near)), (6, .int (zI far)), (7, .int (zI many)), (8, .int (zI most)), (9, .int (zI first)), (10, .int (zI q))]) hX0 hB0 dL_balances_246 hl (by decide) rfl (fun ls hl => ?_)
                                    refine lv_iinc (v := zI 4) (lv' := [(14, .int (zI 4)), (13, .int (zI ((((0 + (kRr p a b q 0)) + (kRr p a b q 1)) + (kRr p a b q 2)) + (kRr p a b q 3)))), (12, .int (zI 1)), (11, .int (zI ((T q : Int)))), (0, .ref o), (1, .int (zI p)), (2, .int (zI 0)), (3, .int (zI 1)), (4, .int (zI ((ztop a) * (ztop b)))), (5, .int (zI near)), (6, .int (zI far)), (7, .int (zI many)), (8, .int (zI most)), (9, .int (zI first)), (10, .int (zI q))]) hX0 hB0 dL_balances_248 hl (k := 1) rfl (by decide) (by decide) rfl (fun ls hl => ?_)
                                    refine lv_goto (tgt := 227) hX0 hB0 dL_balances_251 (by decide) ?_
                                    refine lv_iload hX0 hB0 dL_balances_227 (lv_at hl 0 rfl) ?_
                                    refine lv_iconst (v := zI 4) hX0 hB0 dL_balances_229 rfl ?_
                                    refine z_icmp_ge (tgt := 254) CX dL_balances_230 (by decide) (by constructor <;> omega) (by constructor <;> omega) (fun c_230 => ?_) (fun c_230 => ?_)
                                    ·
                                      refine lv_aload_n hX0 hB0 dL_balances_254 rfl (lv_at hl 4 rfl) ?_
                                      refine lv_iload_n hX0 hB0 dL_balances_255 rfl (lv_at hl 6 rfl) ?_
                                      refine lv_iload_n hX0 hB0 dL_balances_256 rfl (lv_at hl 7 rfl) ?_
                                      refine lv_iload hX0 hB0 dL_balances_257 (lv_at hl 14 rfl) ?_
                                      refine lv_iconst (v := zI 0) hX0 hB0 dL_balances_259 rfl ?_
                                      refine z_calli hW (va_runV (C := RX11) (As := [.int (zI 0), .int (zI 1), .int (zI q), .int (zI 0)]) (rest := []) CX.fix (zd_rules l (f := g45) o N45 0 1 q 0 hP45 hC45 (by omega) (by omega) (by omega) (by omega)) (cwV 4 CX.fix.2.2.2.2 gL_balances_X11_rules rfl rfl rfl (by decide +kernel) ⟨Nat.le_of_ble_eq_true rfl, Nat.le_of_ble_eq_true rfl⟩) (z_preV CX hW (r := (RX11, TX11, 13)) (show g45 o = _ from hP45.c0) rfl) rfl rfl hl.1 rfl (lv_room (Nat.le_of_ble_eq_true rfl)) dL_balances_260 ⟨by show _ ≤ 0; omega, by show _ ≤ 0; omega⟩) (fun zv gn H locs hok260 hW => ?_)
                                      obtain ⟨ez, hP46, hC46, hF46, hV46, hR46⟩ := hok260
                                      have ev46 : (zc_rules N45 0 1 q 0).1 = kRr p a b q 0 := nA_rules hz45 (zPr_2 hpr) hT hzq (by omega)
                                      rw [ez, ev46]
                                      clear ez ev46
                                      obtain ⟨N46, eN46⟩ : ∃ Z9, Z9 = (zc_rules N45 0 1 q 0).2 := ⟨_, rfl⟩
                                      rw [← eN46] at hP46 hC46 hV46
                                      clear eN46
                                      obtain ⟨g46, eg46⟩ : ∃ q, q = gn := ⟨_, rfl⟩
                                      rw [← eg46] at hW hP46 hF46
                                      clear eg46
                                      have hz46 : zP2 N46 p a b := hz45.ve hV46
                                      have hG46 : zFr f g46 o (o + 681) := zFr.tr2 hG45 hF46
                                      refine lv_iconst (v := zI 1) hX0 hB0 dL_balances_263 rfl ?_
                                      refine z_icmp_ne (tgt := 296) CX dL_balances_264 (by decide) (by constructor <;> omega) (by constructor <;> omega) (fun c_264 => ?_) (fun c_264 => ?_)
                                      ·
                                        omega
                                      ·
                                        refine lv_aload_n hX0 hB0 dL_balances_267 rfl (lv_at hl 4 rfl) ?_
                                        refine lv_iload_n hX0 hB0 dL_balances_268 rfl (lv_at hl 6 rfl) ?_
                                        refine lv_iload_n hX0 hB0 dL_balances_269 rfl (lv_at hl 7 rfl) ?_
                                        refine lv_iload hX0 hB0 dL_balances_270 (lv_at hl 14 rfl) ?_
                                        refine lv_iload hX0 hB0 dL_balances_272 (lv_at hl 1 rfl) ?_
                                        refine lv_iconst (v := zI 1) hX0 hB0 dL_balances_274 rfl ?_
                                        refine z_isub (z := ((((0 + (kRr p a b q 0)) + (kRr p a b q 1)) + (kRr p a b q 2)) + (kRr p a b q 3)) - 1) CX dL_balances_275 rfl ?_
                                        refine z_calli hW (va_runV (C := RX11) (As := [.int (zI 0), .int (zI 1), .int (zI q), .int (zI (((((0 + (kRr p a b q 0)) + (kRr p a b q 1)) + (kRr p a b q 2)) + (kRr p a b q 3)) - 1))]) (rest := []) CX.fix (zd_rule l (f := g46) o N46 0 1 q (((((0 + (kRr p a b q 0)) + (kRr p a b q 1)) + (kRr p a b q 2)) + (kRr p a b q 3)) - 1) hP46 hC46 (by omega) (by omega) (by omega) (by omega)) (cwV 4 CX.fix.2.2.2.2 gL_balances_X11_rule rfl rfl rfl (by decide +kernel) ⟨Nat.le_of_ble_eq_true rfl, Nat.le_of_ble_eq_true rfl⟩) (z_preV CX hW (r := (RX11, TX11, 13)) (show g46 o = _ from hP46.c0) rfl) rfl rfl hl.1 rfl (lv_room (Nat.le_of_ble_eq_true rfl)) dL_balances_276 ⟨by show _ ≤ 0; omega, by show _ ≤ 0; omega⟩) (fun zv gn H locs hok276 hW => ?_)
                                        obtain ⟨ez, hP47, hC47, hF47, hV47, hR47⟩ := hok276
                                        have ev47 : (zc_rule N46 0 1 q (((((0 + (kRr p a b q 0)) + (kRr p a b q 1)) + (kRr p a b q 2)) + (kRr p a b q 3)) - 1)).1 = 0 := (by rw [show ((((0 + (kRr p a b q 0)) + (kRr p a b q 1)) + (kRr p a b q 2)) + (kRr p a b q 3)) - 1 = kRs p a b q - 1 by omega]; exact (nA_rule hz46 hpr ha hb (by omega) (by omega) hT hzq).1)
                                        rw [ez, ev47]
                                        clear ez ev47
                                        obtain ⟨N47, eN47⟩ : ∃ Z9, Z9 = (zc_rule N46 0 1 q (((((0 + (kRr p a b q 0)) + (kRr p a b q 1)) + (kRr p a b q 2)) + (kRr p a b q 3)) - 1)).2 := ⟨_, rfl⟩
                                        rw [← eN47] at hP47 hC47 hV47
                                        clear eN47
                                        obtain ⟨g47, eg47⟩ : ∃ q, q = gn := ⟨_, rfl⟩
                                        rw [← eg47] at hW hP47 hF47
                                        clear eg47
                                        have hz47 : zP2 N47 p a b := hz46.ve hV47
                                        have hG47 : zFr f g47 o (o + 681) := zFr.tr2 hG46 hF47
                                        refine z_if_ne (tgt := 296) CX dL_balances_279 (by decide) (by constructor <;> omega) (fun c_279 => ?_) (fun c_279 => ?_)
                                        ·
                                          omega
                                        ·
                                          refine lv_aload_n hX0 hB0 dL_balances_282 rfl (lv_at hl 4 rfl) ?_
                                          refine lv_iload_n hX0 hB0 dL_balances_283 rfl (lv_at hl 6 rfl) ?_
                                          refine lv_iload_n hX0 hB0 dL_balances_284 rfl (lv_at hl 7 rfl) ?_
                                          refine lv_iload hX0 hB0 dL_balances_285 (lv_at hl 14 rfl) ?_
                                          refine lv_iload hX0 hB0 dL_balances_287 (lv_at hl 1 rfl) ?_
                                          refine z_calli hW (va_runV (C := RX11) (As := [.int (zI 0), .int (zI 1), .int (zI q), .int (zI ((((0 + (kRr p a b q 0)) + (kRr p a b q 1)) + (kRr p a b q 2)) + (kRr p a b q 3)))]) (rest := []) CX.fix (zd_rule l (f := g47) o N47 0 1 q ((((0 + (kRr p a b q 0)) + (kRr p a b q 1)) + (kRr p a b q 2)) + (kRr p a b q 3)) hP47 hC47 (by omega) (by omega) (by omega) (by omega)) (cwV 4 CX.fix.2.2.2.2 gL_balances_X11_rule rfl rfl rfl (by decide +kernel) ⟨Nat.le_of_ble_eq_true rfl, Nat.le_of_ble_eq_true rfl⟩) (z_preV CX hW (r := (RX11, TX11, 13)) (show g47 o = _ from hP47.c0) rfl) rfl rfl hl.1 rfl (lv_room (Nat.le_of_ble_eq_true rfl)) dL_balances_289 ⟨by show _ ≤ 0; omega, by show _ ≤ 0; omega⟩) (fun zv gn H locs hok289 hW => ?_)
                                          obtain ⟨ez, hP48, hC48, hF48, hV48, hR48⟩ := hok289
                                          have ev48 : (zc_rule N47 0 1 q ((((0 + (kRr p a b q 0)) + (kRr p a b q 1)) + (kRr p a b q 2)) + (kRr p a b q 3))).1 = -1 := (by rw [show (((0 + (kRr p a b q 0)) + (kRr p a b q 1)) + (kRr p a b q 2)) + (kRr p a b q 3) = kRs p a b q by omega]; exact (nA_rule hz47 hpr ha hb (by omega) (by omega) hT hzq).2)
                                          rw [ez, ev48]
                                          clear ez ev48
                                          obtain ⟨N48, eN48⟩ : ∃ Z9, Z9 = (zc_rule N47 0 1 q ((((0 + (kRr p a b q 0)) + (kRr p a b q 1)) + (kRr p a b q 2)) + (kRr p a b q 3))).2 := ⟨_, rfl⟩
                                          rw [← eN48] at hP48 hC48 hV48
                                          clear eN48
                                          obtain ⟨g48, eg48⟩ : ∃ q, q = gn := ⟨_, rfl⟩
                                          rw [← eg48] at hW hP48 hF48
                                          clear eg48
                                          have hz48 : zP2 N48 p a b := hz47.ve hV48
                                          have hG48 : zFr f g48 o (o + 681) := zFr.tr2 hG47 hF48
                                          refine lv_iconst (v := zI (-1)) hX0 hB0 dL_balances_292 rfl ?_
                                          refine z_icmp_eq (tgt := 298) CX dL_balances_293 (by decide) (by constructor <;> omega) (by constructor <;> omega) (fun c_293 => ?_) (fun c_293 => ?_)
                                          ·
                                            refine lv_iload hX0 hB0 dL_balances_298 (lv_at hl 2 rfl) ?_
                                            refine z_if_ne (tgt := 306) CX dL_balances_300 (by decide) (by constructor <;> omega) (fun c_300 => ?_) (fun c_300 => ?_)
                                            ·
                                              refine lv_aload_n hX0 hB0 dL_balances_306 rfl (lv_at hl 4 rfl) ?_
                                              refine lv_iload_n hX0 hB0 dL_balances_307 rfl (lv_at hl 6 rfl) ?_
                                              refine lv_iload_n hX0 hB0 dL_balances_308 rfl (lv_at hl 7 rfl) ?_
                                              refine lv_iload hX0 hB0 dL_balances_309 (lv_at hl 11 rfl) ?_
                                              refine lv_iconst (v := zI 0) hX0 hB0 dL_balances_311 rfl ?_
                                              refine z_calli hW (va_runV (C := RX11) (As := [.int (zI 0), .int (zI 1), .int (zI many), .int (zI 0)]) (rest := []) CX.fix (zd_meet l (f := g48) o N48 0 1 many 0 hP48 hC48 (by omega) (by omega) (by omega) (by omega)) (cwV 4 CX.fix.2.2.2.2 gL_balances_X11_meet rfl rfl rfl (by decide +kernel) ⟨Nat.le_of_ble_eq_true rfl, Nat.le_of_ble_eq_true rfl⟩) (z_preV CX hW (r := (RX11, TX11, 13)) (show g48 o = _ from hP48.c0) rfl) rfl rfl hl.1 rfl (lv_room (Nat.le_of_ble_eq_true rfl)) dL_balances_312 ⟨by show _ ≤ 0; omega, by show _ ≤ 0; omega⟩) (fun zv gn H locs hok312 hW => ?_)
                                              obtain ⟨ez, hP49, hC49, hF49, hV49, hR49⟩ := hok312
                                              have ev49 : (zc_meet N48 0 1 many 0).1 = q := (zmK0 hz48 (zPr_2 hpr) hT hBI.2.2.1 hzq (by omega))
                                              rw [ez, ev49]
                                              clear ez ev49
                                              obtain ⟨N49, eN49⟩ : ∃ Z9, Z9 = (zc_meet N48 0 1 many 0).2 := ⟨_, rfl⟩
                                              rw [← eN49] at hP49 hC49 hV49
                                              clear eN49
                                              obtain ⟨g49, eg49⟩ : ∃ q, q = gn := ⟨_, rfl⟩
                                              rw [← eg49] at hW hP49 hF49
                                              clear eg49
                                              have hz49 : zP2 N49 p a b := hz48.ve hV49
                                              have hG49 : zFr f g49 o (o + 681) := zFr.tr2 hG48 hF49
                                              refine lv_iload hX0 hB0 dL_balances_315 (lv_at hl 14 rfl) ?_
                                              refine z_icmp_ne (tgt := 334) CX dL_balances_317 (by decide) (by constructor <;> omega) (by constructor <;> omega) (fun c_317 => ?_) (fun c_317 => ?_)
                                              ·
                                                omega
                                              ·
                                                refine lv_aload_n hX0 hB0 dL_balances_320 rfl (lv_at hl 4 rfl) ?_
                                                refine lv_iload_n hX0 hB0 dL_balances_321 rfl (lv_at hl 6 rfl) ?_
                                                refine lv_iload_n hX0 hB0 dL_balances_322 rfl (lv_at hl 7 rfl) ?_
                                                refine lv_iload hX0 hB0 dL_balances_323 (lv_at hl 11 rfl) ?_
                                                refine lv_iconst (v := zI 1) hX0 hB0 dL_balances_325 rfl ?_
                                                refine z_calli hW (va_runV (C := RX11) (As := [.int (zI 0), .int (zI 1), .int (zI many), .int (zI 1)]) (rest := []) CX.fix (zd_meet l (f := g49) o N49 0 1 many 1 hP49 hC49 (by omega) (by omega) (by omega) (by omega)) (cwV 4 CX.fix.2.2.2.2 gL_balances_X11_meet rfl rfl rfl (by decide +kernel) ⟨Nat.le_of_ble_eq_true rfl, Nat.le_of_ble_eq_true rfl⟩) (z_preV CX hW (r := (RX11, TX11, 13)) (show g49 o = _ from hP49.c0) rfl) rfl rfl hl.1 rfl (lv_room (Nat.le_of_ble_eq_true rfl)) dL_balances_326 ⟨by show _ ≤ 0; omega, by show _ ≤ 0; omega⟩) (fun zv gn H locs hok326 hW => ?_)
                                                obtain ⟨ez, hP50, hC50, hF50, hV50, hR50⟩ := hok326
                                                have ev50 : (zc_meet N49 0 1 many 1).1 = (T q : Int) := (zmK1 hz49 (zPr_2 hpr) hT hBI.2.2.1 hzq (by omega))
                                                rw [ez, ev50]
                                                clear ez ev50
                                                obtain ⟨N50, eN50⟩ : ∃ Z9, Z9 = (zc_meet N49 0 1 many 1).2 := ⟨_, rfl⟩
                                                rw [← eN50] at hP50 hC50 hV50
                                                clear eN50
                                                obtain ⟨g50, eg50⟩ : ∃ q, q = gn := ⟨_, rfl⟩
                                                rw [← eg50] at hW hP50 hF50
                                                clear eg50
                                                have hz50 : zP2 N50 p a b := hz49.ve hV50
                                                have hG50 : zFr f g50 o (o + 681) := zFr.tr2 hG49 hF50
                                                refine lv_iload hX0 hB0 dL_balances_329 (lv_at hl 3 rfl) ?_
                                                refine z_icmp_eq (tgt := 336) CX dL_balances_331 (by decide) (by constructor <;> omega) (by constructor <;> omega) (fun c_331 => ?_) (fun c_331 => ?_)
                                                ·
                                                  refine lv_iinc (v := zI (many + 1)) (lv' := [(7, .int (zI (many + 1))), (14, .int (zI 4)), (13, .int (zI ((((0 + (kRr p a b q 0)) + (kRr p a b q 1)) + (kRr p a b q 2)) + (kRr p a b q 3)))), (12, .int (zI 1)), (11, .int (zI ((T q : Int)))), (0, .ref o), (1, .int (zI p)), (2, .int (zI 0)), (3, .int (zI 1)), (4, .int (zI ((ztop a) * (ztop b)))), (5, .int (zI near)), (6, .int (zI far)), (8, .int (zI most)), (9, .int (zI first)), (10, .int (zI q))]) hX0 hB0 dL_balances_336 hl (k := 11) rfl (zI_add _ _) (by decide) rfl (fun ls hl => ?_)
                                                  refine lv_iload hX0 hB0 dL_balances_339 (lv_at hl 4 rfl) ?_
                                                  refine lv_iload hX0 hB0 dL_balances_341 (lv_at hl 12 rfl) ?_
                                                  refine z_icmp_le (tgt := 350) CX dL_balances_343 (by decide) (by constructor <;> omega) (by constructor <;> omega) (fun c_343 => ?_) (fun c_343 => ?_)
                                                  ·
                                                    refine lv_iload hX0 hB0 dL_balances_350 (lv_at hl 12 rfl) ?_
                                                    refine lv_iload hX0 hB0 dL_balances_352 (lv_at hl 4 rfl) ?_
                                                    refine z_mmax (z := max most ((T q : Int))) CX hW hl.1 (CX.at (List.mem_of_getElem? (i := 5) rfl)) (CX.at (List.mem_of_getElem? (i := 6) rfl)) (CX.at (List.mem_of_getElem? (i := 3) rfl)) (CX.at (List.mem_of_getElem? (i := 7) rfl)) (Nat.le_of_ble_eq_true rfl) (Nat.le_of_ble_eq_true rfl) (by show _ ≤ 0; omega) (by show _ ≤ 0; omega) (by constructor <;> omega) (by constructor <;> omega) rfl dL_balances_354 ?_
                                                    refine lv_istore (lv' := [(8, .int (zI (max most ((T q : Int))))), (7, .int (zI (many + 1))), (14, .int (zI 4)), (13, .int (zI ((((0 + (kRr p a b q 0)) + (kRr p a b q 1)) + (kRr p a b q 2)) + (kRr p a b q 3)))), (12, .int (zI 1)), (11, .int (zI ((T q : Int)))), (0, .ref o), (1, .int (zI p)), (2, .int (zI 0)), (3, .int (zI 1)), (4, .int (zI ((ztop a) * (ztop b)))), (5, .int (zI near)), (6, .int (zI far)), (9, .int (zI first)), (10, .int (zI q))]) hX0 hB0 dL_balances_357 hl (by decide) rfl (fun ls hl => ?_)
                                                    refine lv_iload hX0 hB0 dL_balances_359 (lv_at hl 14 rfl) ?_
                                                    refine lv_iload_n hX0 hB0 dL_balances_361 rfl (lv_at hl 7 rfl) ?_
                                                    refine lv_iload_n hX0 hB0 dL_balances_362 rfl (lv_at hl 7 rfl) ?_
                                                    refine z_imul (z := p * p) CX dL_balances_363 rfl ?_
                                                    refine z_icmp_ge (tgt := 377) CX dL_balances_364 (by decide) (by constructor <;> omega) (by constructor <;> omega) (fun c_364 => ?_) (fun c_364 => ?_)
                                                    ·
                                                      refine lv_iload hX0 hB0 dL_balances_377 (lv_at hl 12 rfl) ?_
                                                      refine lv_iload hX0 hB0 dL_balances_379 (lv_at hl 5 rfl) ?_
                                                      refine z_iadd (z := far + ((T q : Int))) CX dL_balances_381 rfl ?_
                                                      refine lv_istore (lv' := [(6, .int (zI (far + ((T q : Int))))), (8, .int (zI (max most ((T q : Int))))), (7, .int (zI (many + 1))), (14, .int (zI 4)), (13, .int (zI ((((0 + (kRr p a b q 0)) + (kRr p a b q 1)) + (kRr p a b q 2)) + (kRr p a b q 3)))), (12, .int (zI 1)), (11, .int (zI ((T q : Int)))), (0, .ref o), (1, .int (zI p)), (2, .int (zI 0)), (3, .int (zI 1)), (4, .int (zI ((ztop a) * (ztop b)))), (5, .int (zI near)), (9, .int (zI first)), (10, .int (zI q))]) hX0 hB0 dL_balances_382 hl (by decide) rfl (fun ls hl => ?_)
                                                      refine lv_iinc (v := zI (q + 1)) (lv' := [(10, .int (zI (q + 1))), (6, .int (zI (far + ((T q : Int))))), (8, .int (zI (max most ((T q : Int))))), (7, .int (zI (many + 1))), (14, .int (zI 4)), (13, .int (zI ((((0 + (kRr p a b q 0)) + (kRr p a b q 1)) + (kRr p a b q 2)) + (kRr p a b q 3)))), (12, .int (zI 1)), (11, .int (zI ((T q : Int)))), (0, .ref o), (1, .int (zI p)), (2, .int (zI 0)), (3, .int (zI 1)), (4, .int (zI ((ztop a) * (ztop b)))), (5, .int (zI near)), (9, .int (zI first))]) hX0 hB0 dL_balances_384 hl (k := 14) rfl (zI_add _ _) (by decide) rfl (fun ls hl => ?_)
                                                      refine lv_goto (tgt := 97) hX0 hB0 dL_balances_387 (by decide) ?_
                                                      exact ih97 g50 N50 near (far + ((T q : Int))) (many + 1) (max most ((T q : Int))) first (q + 1) Lx ⟨hP50, hC50, hz50, hG50, by omega, by
                                                        have z := hBI.s (by omega)
                                                        have e1 : (if q < p * p then near + (T q : Int) else near) = near := by split <;> omega
                                                        have e2 : (if q < p * p then far else far + (T q : Int)) = far + ((T q : Int)) := by split <;> omega
                                                        have e3 : (if 0 < T q then many + 1 else many) = many + 1 := by split <;> omega
                                                        have e4 : (if (T q : Int) ≤ most then most else (T q : Int)) = max most ((T q : Int)) := by split <;> omega
                                                        have e5 : (if (T q : Int) ≤ most then first else q) = first := by split <;> omega
                                                        rw [e1, e2, e3, e4, e5] at z
                                                        exact z, by omega, by omega, by omega⟩ (by omega) H locs ls hW (lv_sub hl [8, 9, 10, 11, 12, 13, 1, 3, 2, 14, 0] rfl)
                                                    ·
                                                      refine lv_iload hX0 hB0 dL_balances_367 (lv_at hl 11 rfl) ?_
                                                      refine lv_iload hX0 hB0 dL_balances_369 (lv_at hl 5 rfl) ?_
                                                      refine z_iadd (z := near + ((T q : Int))) CX dL_balances_371 rfl ?_
                                                      refine lv_istore (lv' := [(5, .int (zI (near + ((T q : Int))))), (8, .int (zI (max most ((T q : Int))))), (7, .int (zI (many + 1))), (14, .int (zI 4)), (13, .int (zI ((((0 + (kRr p a b q 0)) + (kRr p a b q 1)) + (kRr p a b q 2)) + (kRr p a b q 3)))), (12, .int (zI 1)), (11, .int (zI ((T q : Int)))), (0, .ref o), (1, .int (zI p)), (2, .int (zI 0)), (3, .int (zI 1)), (4, .int (zI ((ztop a) * (ztop b)))), (6, .int (zI far)), (9, .int (zI first)), (10, .int (zI q))]) hX0 hB0 dL_balances_372 hl (by decide) rfl (fun ls hl => ?_)
                                                      refine lv_goto (tgt := 384) hX0 hB0 dL_balances_374 (by decide) ?_
                                                      refine lv_iinc (v := zI (q + 1)) (lv' := [(10, .int (zI (q + 1))), (5, .int (zI (near + ((T q : Int))))), (8, .int (zI (max most ((T q : Int))))), (7, .int (zI (many + 1))), (14, .int (zI 4)), (13, .int (zI ((((0 + (kRr p a b q 0)) + (kRr p a b q 1)) + (kRr p a b q 2)) + (kRr p a b q 3)))), (12, .int (zI 1)), (11, .int (zI ((T q : Int)))), (0, .ref o), (1, .int (zI p)), (2, .int (zI 0)), (3, .int (zI 1)), (4, .int (zI ((ztop a) * (ztop b)))), (6, .int (zI far)), (9, .int (zI first))]) hX0 hB0 dL_balances_384 hl (k := 14) rfl (zI_add _ _) (by decide) rfl (fun ls hl => ?_)
                                                      refine lv_goto (tgt := 97) hX0 hB0 dL_balances_387 (by decide) ?_
                                                      exact ih97 g50 N50 (near + ((T q : Int))) far (many + 1) (max most ((T q : Int))) first (q + 1) Lx ⟨hP50, hC50, hz50, hG50, by omega, by
                                                        have z := hBI.s (by omega)
                                                        have e1 : (if q < p * p then near + (T q : Int) else near) = near + ((T q : Int)) := by split <;> omega
                                                        have e2 : (if q < p * p then far else far + (T q : Int)) = far := by split <;> omega
                                                        have e3 : (if 0 < T q then many + 1 else many) = many + 1 := by split <;> omega
                                                        have e4 : (if (T q : Int) ≤ most then most else (T q : Int)) = max most ((T q : Int)) := by split <;> omega
                                                        have e5 : (if (T q : Int) ≤ most then first else q) = first := by split <;> omega
                                                        rw [e1, e2, e3, e4, e5] at z
                                                        exact z, by omega, by omega, by omega⟩ (by omega) H locs ls hW (lv_sub hl [8, 9, 10, 11, 12, 1, 13, 3, 2, 14, 0] rfl)
                                                  ·
                                                    refine lv_iload hX0 hB0 dL_balances_346 (lv_at hl 14 rfl) ?_
                                                    refine lv_istore (lv' := [(9, .int (zI q)), (7, .int (zI (many + 1))), (14, .int (zI 4)), (13, .int (zI ((((0 + (kRr p a b q 0)) + (kRr p a b q 1)) + (kRr p a b q 2)) + (kRr p a b q 3)))), (12, .int (zI 1)), (11, .int (zI ((T q : Int)))), (0, .ref o), (1, .int (zI p)), (2, .int (zI 0)), (3, .int (zI 1)), (4, .int (zI ((ztop a) * (ztop b)))), (5, .int (zI near)), (6, .int (zI far)), (8, .int (zI most)), (10, .int (zI q))]) hX0 hB0 dL_balances_348 hl (by decide) rfl (fun ls hl => ?_)
                                                    refine lv_iload hX0 hB0 dL_balances_350 (lv_at hl 13 rfl) ?_
                                                    refine lv_iload hX0 hB0 dL_balances_352 (lv_at hl 5 rfl) ?_
                                                    refine z_mmax (z := max most ((T q : Int))) CX hW hl.1 (CX.at (List.mem_of_getElem? (i := 5) rfl)) (CX.at (List.mem_of_getElem? (i := 6) rfl)) (CX.at (List.mem_of_getElem? (i := 3) rfl)) (CX.at (List.mem_of_getElem? (i := 7) rfl)) (Nat.le_of_ble_eq_true rfl) (Nat.le_of_ble_eq_true rfl) (by show _ ≤ 0; omega) (by show _ ≤ 0; omega) (by constructor <;> omega) (by constructor <;> omega) rfl dL_balances_354 ?_
                                                    refine lv_istore (lv' := [(8, .int (zI (max most ((T q : Int))))), (9, .int (zI q)), (7, .int (zI (many + 1))), (14, .int (zI 4)), (13, .int (zI ((((0 + (kRr p a b q 0)) + (kRr p a b q 1)) + (kRr p a b q 2)) + (kRr p a b q 3)))), (12, .int (zI 1)), (11, .int (zI ((T q : Int)))), (0, .ref o), (1, .int (zI p)), (2, .int (zI 0)), (3, .int (zI 1)), (4, .int (zI ((ztop a) * (ztop b)))), (5, .int (zI near)), (6, .int (zI far)), (10, .int (zI q))]) hX0 hB0 dL_balances_357 hl (by decide) rfl (fun ls hl => ?_)
                                                    refine lv_iload hX0 hB0 dL_balances_359 (lv_at hl 14 rfl) ?_
                                                    refine lv_iload_n hX0 hB0 dL_balances_361 rfl (lv_at hl 8 rfl) ?_
                                                    refine lv_iload_n hX0 hB0 dL_balances_362 rfl (lv_at hl 8 rfl) ?_
                                                    refine z_imul (z := p * p) CX dL_balances_363 rfl ?_
                                                    refine z_icmp_ge (tgt := 377) CX dL_balances_364 (by decide) (by constructor <;> omega) (by constructor <;> omega) (fun c_364 => ?_) (fun c_364 => ?_)
                                                    ·
                                                      refine lv_iload hX0 hB0 dL_balances_377 (lv_at hl 13 rfl) ?_
                                                      refine lv_iload hX0 hB0 dL_balances_379 (lv_at hl 6 rfl) ?_
                                                      refine z_iadd (z := far + ((T q : Int))) CX dL_balances_381 rfl ?_
                                                      refine lv_istore (lv' := [(6, .int (zI (far + ((T q : Int))))), (8, .int (zI (max most ((T q : Int))))), (9, .int (zI q)), (7, .int (zI (many + 1))), (14, .int (zI 4)), (13, .int (zI ((((0 + (kRr p a b q 0)) + (kRr p a b q 1)) + (kRr p a b q 2)) + (kRr p a b q 3)))), (12, .int (zI 1)), (11, .int (zI ((T q : Int)))), (0, .ref o), (1, .int (zI p)), (2, .int (zI 0)), (3, .int (zI 1)), (4, .int (zI ((ztop a) * (ztop b)))), (5, .int (zI near)), (10, .int (zI q))]) hX0 hB0 dL_balances_382 hl (by decide) rfl (fun ls hl => ?_)
                                                      refine lv_iinc (v := zI (q + 1)) (lv' := [(10, .int (zI (q + 1))), (6, .int (zI (far + ((T q : Int))))), (8, .int (zI (max most ((T q : Int))))), (9, .int (zI q)), (7, .int (zI (many + 1))), (14, .int (zI 4)), (13, .int (zI ((((0 + (kRr p a b q 0)) + (kRr p a b q 1)) + (kRr p a b q 2)) + (kRr p a b q 3)))), (12, .int (zI 1)), (11, .int (zI ((T q : Int)))), (0, .ref o), (1, .int (zI p)), (2, .int (zI 0)), (3, .int (zI 1)), (4, .int (zI ((ztop a) * (ztop b)))), (5, .int (zI near))]) hX0 hB0 dL_balances_384 hl (k := 14) rfl (zI_add _ _) (by decide) rfl (fun ls hl => ?_)
                                                      refine lv_goto (tgt := 97) hX0 hB0 dL_balances_387 (by decide) ?_
                                                      exact ih97 g50 N50 near (far + ((T q : Int))) (many + 1) (max most ((T q : Int))) q (q + 1) Lx ⟨hP50, hC50, hz50, hG50, by omega, by
                                                        have z := hBI.s (by omega)
                                                        have e1 : (if q < p * p then near + (T q : Int) else near) = near := by split <;> omega
                                                        have e2 : (if q < p * p then far else far + (T q : Int)) = far + ((T q : Int)) := by split <;> omega
                                                        have e3 : (if 0 < T q then many + 1 else many) = many + 1 := by split <;> omega
                                                        have e4 : (if (T q : Int) ≤ most then most else (T q : Int)) = max most ((T q : Int)) := by split <;> omega
                                                        have e5 : (if (T q : Int) ≤ most then first else q) = q := by split <;> omega
                                                        rw [e1, e2, e3, e4, e5] at z
                                                        exact z, by omega, by omega, by omega⟩ (by omega) H locs ls hW (lv_sub hl [9, 10, 11, 12, 13, 14, 1, 4, 2, 3, 0] rfl)
                                                    ·
                                                      refine lv_iload hX0 hB0 dL_balances_367 (lv_at hl 12 rfl) ?_
                                                      refine lv_iload hX0 hB0 dL_balances_369 (lv_at hl 6 rfl) ?_
                                                      refine z_iadd (z := near + ((T q : Int))) CX dL_balances_371 rfl ?_
                                                      refine lv_istore (lv' := [(5, .int (zI (near + ((T q : Int))))), (8, .int (zI (max most ((T q : Int))))), (9, .int (zI q)), (7, .int (zI (many + 1))), (14, .int (zI 4)), (13, .int (zI ((((0 + (kRr p a b q 0)) + (kRr p a b q 1)) + (kRr p a b q 2)) + (kRr p a b q 3)))), (12, .int (zI 1)), (11, .int (zI ((T q : Int)))), (0, .ref o), (1, .int (zI p)), (2, .int (zI 0)), (3, .int (zI 1)), (4, .int (zI ((ztop a) * (ztop b)))), (6, .int (zI far)), (10, .int (zI q))]) hX0 hB0 dL_balances_372 hl (by decide) rfl (fun ls hl => ?_)
                                                      refine lv_goto (tgt := 384) hX0 hB0 dL_balances_374 (by decide) ?_
                                                      refine lv_iinc (v := zI (q + 1)) (lv' := [(10, .int (zI (q + 1))), (5, .int (zI (near + ((T q : Int))))), (8, .int (zI (max most ((T q : Int))))), (9, .int (zI q)), (7, .int (zI (many + 1))), (14, .int (zI 4)), (13, .int (zI ((((0 + (kRr p a b q 0)) + (kRr p a b q 1)) + (kRr p a b q 2)) + (kRr p a b q 3)))), (12, .int (zI 1)), (11, .int (zI ((T q : Int)))), (0, .ref o), (1, .int (zI p)), (2, .int (zI 0)), (3, .int (zI 1)), (4, .int (zI ((ztop a) * (ztop b)))), (6, .int (zI far))]) hX0 hB0 dL_balances_384 hl (k := 14) rfl (zI_add _ _) (by decide) rfl (fun ls hl => ?_)
                                                      refine lv_goto (tgt := 97) hX0 hB0 dL_balances_387 (by decide) ?_
                                                      exact ih97 g50 N50 (near + ((T q : Int))) far (many + 1) (max most ((T q : Int))) q (q + 1) Lx ⟨hP50, hC50, hz50, hG50, by omega, by
                                                        have z := hBI.s (by omega)
                                                        have e1 : (if q < p * p then near + (T q : Int) else near) = near + ((T q : Int)) := by split <;> omega
                                                        have e2 : (if q < p * p then far else far + (T q : Int)) = far := by split <;> omega
                                                        have e3 : (if 0 < T q then many + 1 else many) = many + 1 := by split <;> omega
                                                        have e4 : (if (T q : Int) ≤ most then most else (T q : Int)) = max most ((T q : Int)) := by split <;> omega
                                                        have e5 : (if (T q : Int) ≤ most then first else q) = q := by split <;> omega
                                                        rw [e1, e2, e3, e4, e5] at z
                                                        exact z, by omega, by omega, by omega⟩ (by omega) H locs ls hW (lv_sub hl [9, 10, 11, 12, 13, 1, 14, 4, 2, 3, 0] rfl)
                                                ·
                                                  omega
                                            ·
                                              omega
                                          ·
                                            omega
                                    ·
                                      omega
                          ·
                            omega
                      ·
                        omega
    exact hL97 _ g3 N3 0 0 0 0 (-1) 0 L ⟨hP3, hC3, hz3, hG3, by omega, zBI.z (by omega), by omega, by omega, by omega⟩ (Nat.lt_succ_self _) H locs ls hW (lv_sub hl [7, 8, 9, 10, 6, 5, 4, 3, 2, 1, 0] rfl)
  ·
    refine lv_iconst (v := zI 0) hX0 hB0 dL_balances_22 rfl ?_
    refine lv_istore (lv' := [(5, .int (zI 0)), (4, .int (zI ((ztop a) * (ztop b)))), (0, .ref o), (1, .int (zI p)), (2, .int (zI 0)), (3, .int (zI 1))]) hX0 hB0 dL_balances_23 hl (by decide) rfl (fun ls hl => ?_)
    have hL25 : ∀ (fu : Nat) (g : Nat → va_E) (N : zCt) (k : Int) (Lx : List Nat), (zCP cI cP cS cZ cM o N g ∧ zCI N ∧ zP2 N p a b ∧ zFr f g o (o + 681) ∧ 0 ≤ k ∧ k ≤ 5) → (5 - k).toNat < fu → ∀ (H : Heap) (locs : List Loc) (ls : Array Slot), zW D (zT cI cJ cZ cP cS cM) Lx (zQ L sz) st g st.heap H locs → lv_has ls 15 [(0, .ref o), (1, .int (zI p)), (2, .int (zI 0)), (3, .int (zI 1)), (4, .int (zI ((ztop a) * (ztop b)))), (5, .int (zI k))] → W pg l en ({ frames := 8, cells := 0, slots := 0, locals := 202 } : Room) st mi ag bl mt cd H locs 0 0 Q (F0 mi 25 ls []) := by
      intro fu
      induction fu with
      | zero => intro g N k Lx _ hfu; exact absurd hfu (Nat.not_lt_zero _)
      | succ fu ih25 =>
        intro g N k Lx hinv25 hfu25 H locs ls hW hl
        obtain ⟨hP, hC, hz, hFr, hk⟩ := hinv25
        refine lv_iload hX0 hB0 dL_balances_25 (lv_at hl 5 rfl) ?_
        refine lv_iconst (v := zI 5) hX0 hB0 dL_balances_27 rfl ?_
        refine z_icmp_ge (tgt := 51) CX dL_balances_28 (by decide) (by constructor <;> omega) (by constructor <;> omega) (fun c_28 => ?_) (fun c_28 => ?_)
        ·
          refine lv_aload_n hX0 hB0 dL_balances_51 rfl (lv_at hl 0 rfl) ?_
          refine lv_iload_n hX0 hB0 dL_balances_52 rfl (lv_at hl 2 rfl) ?_
          refine lv_iload_n hX0 hB0 dL_balances_53 rfl (lv_at hl 3 rfl) ?_
          refine z_calli hW (va_runV (C := RX11) (As := [.int (zI 0), .int (zI 1)]) (rest := []) CX.fix (zd_common l (f := g) o N 0 1 hP hC (by omega) (by omega)) (cwV 2 CX.fix.2.2.2.2 gL_balances_X11_common rfl rfl rfl (by decide +kernel) ⟨Nat.le_of_ble_eq_true rfl, Nat.le_of_ble_eq_true rfl⟩) (z_preV CX hW (r := (RX11, TX11, 13)) (show g o = _ from hP.c0) rfl) rfl rfl hl.1 rfl (lv_room (Nat.le_of_ble_eq_true rfl)) dL_balances_54 ⟨by show _ ≤ 0; omega, by show _ ≤ 0; omega⟩) (fun zv gn H locs hok54 hW => ?_)
          obtain ⟨ez, hP51, hC51, hF51, hV51, hR51⟩ := hok54
          have ev51 : (zc_common N 0 1).1 = ztop (zcmP a b p) := nA_common hz (Or.inl rfl) (Or.inr rfl)
          rw [ez, ev51]
          clear ez ev51
          obtain ⟨N51, eN51⟩ : ∃ Z9, Z9 = (zc_common N 0 1).2 := ⟨_, rfl⟩
          rw [← eN51] at hP51 hC51 hV51
          clear eN51
          obtain ⟨g51, eg51⟩ : ∃ q, q = gn := ⟨_, rfl⟩
          rw [← eg51] at hW hP51 hF51
          clear eg51
          have hz51 : zP2 N51 p a b := hz.ve hV51
          have hG51 : zFr f g51 o (o + 681) := zFr.tr2 hFr hF51
          refine lv_aload_n hX0 hB0 dL_balances_57 rfl (lv_at hl 0 rfl) ?_
          refine lv_iload_n hX0 hB0 dL_balances_58 rfl (lv_at hl 2 rfl) ?_
          refine z_calli hW (va_runV (C := RX11) (As := [.int (zI 0)]) (rest := [.int (zI (ztop (zcmP a b p)))]) CX.fix (zd_degree l (f := g51) o N51 0 hP51 hC51 (by omega)) (cwV 1 CX.fix.2.2.2.2 gL_balances_X11_degree rfl rfl rfl (by decide +kernel) ⟨Nat.le_of_ble_eq_true rfl, Nat.le_of_ble_eq_true rfl⟩) (z_preV CX hW (r := (RX11, TX11, 13)) (show g51 o = _ from hP51.c0) rfl) rfl rfl hl.1 rfl (lv_room (Nat.le_of_ble_eq_true rfl)) dL_balances_59 ⟨by show _ ≤ 0; omega, by show _ ≤ 0; omega⟩) (fun zv gn H locs hok59 hW => ?_)
          obtain ⟨ez, hP52, hC52, hF52, hV52, hR52⟩ := hok59
          have ev52 : (zc_degree N51 0).1 = ztop a := nA_degree hz51 (Or.inl rfl)
          rw [ez, ev52]
          clear ez ev52
          obtain ⟨N52, eN52⟩ : ∃ Z9, Z9 = (zc_degree N51 0).2 := ⟨_, rfl⟩
          rw [← eN52] at hP52 hC52 hV52
          clear eN52
          obtain ⟨g52, eg52⟩ : ∃ q, q = gn := ⟨_, rfl⟩
          rw [← eg52] at hW hP52 hF52
          clear eg52
          have hz52 : zP2 N52 p a b := hz51.ve hV52
          have hG52 : zFr f g52 o (o + 681) := zFr.tr2 hG51 hF52
          refine lv_aload_n hX0 hB0 dL_balances_62 rfl (lv_at hl 0 rfl) ?_
          refine lv_iload_n hX0 hB0 dL_balances_63 rfl (lv_at hl 3 rfl) ?_
          refine z_calli hW (va_runV (C := RX11) (As := [.int (zI 1)]) (rest := [.int (zI (ztop a)), .int (zI (ztop (zcmP a b p)))]) CX.fix (zd_degree l (f := g52) o N52 1 hP52 hC52 (by omega)) (cwV 1 CX.fix.2.2.2.2 gL_balances_X11_degree rfl rfl rfl (by decide +kernel) ⟨Nat.le_of_ble_eq_true rfl, Nat.le_of_ble_eq_true rfl⟩) (z_preV CX hW (r := (RX11, TX11, 13)) (show g52 o = _ from hP52.c0) rfl) rfl rfl hl.1 rfl (lv_room (Nat.le_of_ble_eq_true rfl)) dL_balances_64 ⟨by show _ ≤ 0; omega, by show _ ≤ 0; omega⟩) (fun zv gn H locs hok64 hW => ?_)
          obtain ⟨ez, hP53, hC53, hF53, hV53, hR53⟩ := hok64
          have ev53 : (zc_degree N52 1).1 = ztop b := nA_degree hz52 (Or.inr rfl)
          rw [ez, ev53]
          clear ez ev53
          obtain ⟨N53, eN53⟩ : ∃ Z9, Z9 = (zc_degree N52 1).2 := ⟨_, rfl⟩
          rw [← eN53] at hP53 hC53 hV53
          clear eN53
          obtain ⟨g53, eg53⟩ : ∃ q, q = gn := ⟨_, rfl⟩
          rw [← eg53] at hW hP53 hF53
          clear eg53
          have hz53 : zP2 N53 p a b := hz52.ve hV53
          have hG53 : zFr f g53 o (o + 681) := zFr.tr2 hG52 hF53
          refine z_mmin (z := min (ztop a) (ztop b)) CX hW hl.1 (CX.at (List.mem_of_getElem? (i := 1) rfl)) (CX.at (List.mem_of_getElem? (i := 2) rfl)) (CX.at (List.mem_of_getElem? (i := 3) rfl)) (CX.at (List.mem_of_getElem? (i := 4) rfl)) (Nat.le_of_ble_eq_true rfl) (Nat.le_of_ble_eq_true rfl) (by show _ ≤ 0; omega) (by show _ ≤ 0; omega) (by constructor <;> omega) (by constructor <;> omega) rfl dL_balances_67 ?_
          refine z_icmp_gt (tgt := 77) CX dL_balances_70 (by decide) (by constructor <;> omega) (by constructor <;> omega) (fun c_70 => ?_) (fun c_70 => ?_)
          ·
            omega
          ·
            refine lv_iconst (v := zI 1) hX0 hB0 dL_balances_73 rfl ?_
            refine lv_goto (tgt := 78) hX0 hB0 dL_balances_74 (by decide) ?_
            rw [← hQ]
            refine W.widen (k := 0) (n := 0) (by omega) (by omega) ?_
            refine zy_iret (z := 1) CX hW ?_ rfl dL_balances_78
            exact ⟨rfl, N53, hP53, hC53, hz53, hG53⟩
        ·
          refine lv_aload_n hX0 hB0 dL_balances_31 rfl (lv_at hl 0 rfl) ?_
          refine lv_iload_n hX0 hB0 dL_balances_32 rfl (lv_at hl 2 rfl) ?_
          refine lv_iload_n hX0 hB0 dL_balances_33 rfl (lv_at hl 3 rfl) ?_
          refine lv_iload hX0 hB0 dL_balances_34 (lv_at hl 5 rfl) ?_
          refine z_calli hW (va_runV (C := RX11) (As := [.int (zI 0), .int (zI 1), .int (zI k)]) (rest := []) CX.fix (zd_total l (f := g) o N 0 1 k hP hC (by omega) (by omega) (by omega) (hz.tp (by omega) (by omega))) (cwV 3 CX.fix.2.2.2.2 gL_balances_X11_total rfl rfl rfl (by decide +kernel) ⟨Nat.le_of_ble_eq_true rfl, Nat.le_of_ble_eq_true rfl⟩) (z_preV CX hW (r := (RX11, TX11, 13)) (show g o = _ from hP.c0) rfl) rfl rfl hl.1 rfl (lv_room (Nat.le_of_ble_eq_true rfl)) dL_balances_36 ⟨by show _ ≤ 0; omega, by show _ ≤ 0; omega⟩) (fun zv gn H locs hok36 hW => ?_)
          obtain ⟨ez, hP54, hC54, hF54, hV54, hR54⟩ := hok36
          have ev54 : (zc_total N 0 1 k).1 = -1 := nA_totalNo hz (by omega) _
          rw [ez, ev54]
          clear ez ev54
          obtain ⟨N54, eN54⟩ : ∃ Z9, Z9 = (zc_total N 0 1 k).2 := ⟨_, rfl⟩
          rw [← eN54] at hP54 hC54 hV54
          clear eN54
          obtain ⟨g54, eg54⟩ : ∃ q, q = gn := ⟨_, rfl⟩
          rw [← eg54] at hW hP54 hF54
          clear eg54
          have hz54 : zP2 N54 p a b := hz.ve hV54
          have hG54 : zFr f g54 o (o + 681) := zFr.tr2 hFr hF54
          refine lv_iconst (v := zI (-1)) hX0 hB0 dL_balances_39 rfl ?_
          refine z_icmp_eq (tgt := 45) CX dL_balances_40 (by decide) (by constructor <;> omega) (by constructor <;> omega) (fun c_40 => ?_) (fun c_40 => ?_)
          ·
            refine lv_iinc (v := zI (k + 1)) (lv' := [(5, .int (zI (k + 1))), (0, .ref o), (1, .int (zI p)), (2, .int (zI 0)), (3, .int (zI 1)), (4, .int (zI ((ztop a) * (ztop b))))]) hX0 hB0 dL_balances_45 hl (k := 5) rfl (zI_add _ _) (by decide) rfl (fun ls hl => ?_)
            refine lv_goto (tgt := 25) hX0 hB0 dL_balances_48 (by decide) ?_
            exact ih25 g54 N54 (k + 1) Lx ⟨hP54, hC54, hz54, hG54, by omega, by omega⟩ (by omega) H locs ls hW (lv_sub hl [1, 2, 3, 4, 5, 0] rfl)
          ·
            omega
    exact hL25 _ g3 N3 0 L ⟨hP3, hC3, hz3, hG3, by omega, by omega⟩ (Nat.lt_succ_self _) H locs ls hW (lv_sub hl [2, 3, 4, 5, 1, 0] rfl)
end ZLn
