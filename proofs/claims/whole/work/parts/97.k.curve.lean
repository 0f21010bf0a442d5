section ZJk
/-- what the reading of CURVES may change -/
def zDf (S S' : zS2) : Prop := ∀ a i : Nat, ¬ (a = 0 ∧ ((6 ≤ i ∧ i ≤ 9) ∨ i = 15 ∨ i = 19)) → a ≠ 4 → a ≠ 7 → a ≠ 8 → ¬ (a = 3 ∧ 150 ≤ i) → ¬ (a = 5 ∧ 6 ≤ i) → S' a i = S a i
theorem zDf.rf {S : zS2} : zDf S S := fun _ _ _ _ _ _ _ _ => rfl
theorem zDf.tr {S S' S'' : zS2} (h : zDf S S') (h2 : zDf S' S'') : zDf S S'' := fun a i a1 a2 a3 a4 a5 a6 => (h2 a i a1 a2 a3 a4 a5 a6).trans (h a i a1 a2 a3 a4 a5 a6)
theorem zPf.df {S S' : zS2} (h : zPf S S') : zDf S S' := fun a i a1 a2 a3 a4 a5 _ => h a i (by omega) a2 a3 a4 (by omega)
theorem zFs.df {S S' : zS2} (h : zFs S S') : zDf S S' := h.pf.df
def zcu8 (S : zS2) : zS2 := zm_readsCurve_J8 (zm_word S) (zm_goesWell (zm_word S))
def zcu32 (S : zS2) : zS2 := zm_readsCurve_J32 (zcu8 S) (zm_goesWell (zcu8 S))
def zcuW (S : zS2) : zS2 := (zm_readsCurve_W65 (zm_name S).1 (zm_name S).2 8 0 (zm_name S).2).2
def zcuM (S : zS2) : zS2 := zm_readsCurve_J115 (zm_mark S 61) (zm_goesWell (zm_mark S 61))
def zcuG (S : zS2) : zS2 := za S 0 15 (S 0 15 + 1)
def zcuF (S54 S163 : zS2) : zS2 := zcuG (zm_readsCurve_J176 S54 S163 (zm_degreeOf S163 (6 + S163 0 15)))
def zcuE (v : Int) (S54 S125 : zS2) : zS2 := zcuF S54 (za (zm_copies S125 (6 + S125 0 15) (zm_sumOf 0)) 5 ((6 + (zm_copies S125 (6 + S125 0 15) (zm_sumOf 0)) 0 15).toNat) v)
def zcuT (v : Int) (S54 S : zS2) : zS2 := if zm_goesWell (zm_mark S 59) = 0 then zm_mark S 59 else zcuE v S54 (zm_mark S 59)
theorem zs_curveE (S : zS2) : zm_readsCurve S = zcuT (zm_name (zcu32 S)).1 (zm_name (zcu32 S)).2 (zcuM (zcuW (zcu32 S))) := by
  unfold zm_readsCurve zcuT zcuE zcuF zcuG zcuM zcuW zcu32 zcu8
  generalize zm_readsCurve_W65 = W
  generalize zm_word = Wd
  generalize zm_readsCurve_J8 = J8
  generalize zm_readsCurve_J32 = J32
  generalize zm_readsCurve_J115 = J115
  generalize zm_readsCurve_J176 = J176
  generalize zm_name = N
  generalize zm_mark = K
  generalize zm_copies = Co
  generalize zm_degreeOf = D
  generalize zm_sumOf = Su
  simp only [zlet_v]
theorem zfp_name {S : zS2} (h8 : ¬ S 0 8 = 0) : zm_name S = (0, S) := by
  have e0 : zm_goesWell S = 0 := if_neg h8
  have e1 : zm_name_J8 S 0 = S := by
    unfold zm_name_J8
    rw [if_pos (show (0 : Int) = 0 from rfl)]
  have e := zs_nameE S
  rw [zfp_word h8, e0, e1, e0, if_pos (show (0 : Int) = 0 from rfl)] at e
  exact e
theorem zfp_cuW {S : zS2} (h8 : ¬ S 0 8 = 0) : zcuW S = S := by
  unfold zcuW
  rw [zfp_name h8]
  exact zs_W65f 8 0 h8
theorem zfp_cuM {S : zS2} (h8 : ¬ (zm_mark S 61) 0 8 = 0) : zcuM S = zm_mark S 61 := by
  unfold zcuM zm_readsCurve_J115
  rw [show zm_goesWell (zm_mark S 61) = 0 from if_neg h8, if_pos (show (0 : Int) = 0 from rfl)]
theorem zfp_cuT {S : zS2} (h8 : ¬ (zm_mark S 59) 0 8 = 0) (v : Int) (S54 : zS2) : zcuT v S54 S = zm_mark S 59 := by
  unfold zcuT
  rw [if_pos (show zm_goesWell (zm_mark S 59) = 0 from if_neg h8)]
/-- a fault passes to the end -/
theorem zfp_tail {S : zS2} (h8 : ¬ S 0 8 = 0) (v : Int) (S54 : zS2) : zcuT v S54 (zcuM S) = S := by
  have e61 := zfp_mark h8 61
  have e59 := zfp_mark h8 59
  rw [zfp_cuM (by rw [e61]; exact h8), e61, zfp_cuT (by rw [e59]; exact h8), e59]
theorem zwe_stopF {n : Int} {T : Nat → Int} : ∀ (k : Nat) (a : Int), a + k = n → ¬ (97 ≤ zby n T (zweF n T k a) ∧ zby n T (zweF n T k a) ≤ 122)
  | 0, a, h => by
    simp only [zweF]
    rw [zby_n (by omega)]
    omega
  | k + 1, a, h => by
    simp only [zweF]
    by_cases c : 97 ≤ zby n T a ∧ zby n T a ≤ 122
    · rw [if_pos c]
      exact zwe_stopF k (a + 1) (by omega)
    · rw [if_neg c]
      exact c
theorem zwe_stop {n : Int} {T : Nat → Int} {a : Int} (h : a ≤ n) : ¬ (97 ≤ zby n T (zwe n T a) ∧ zby n T (zwe n T a) ≤ 122) := zwe_stopF (n - a).toNat a (by omega)
theorem zsk_blF {n : Int} {T : Nat → Int} : ∀ (k : Nat) (a : Int), zskF n T k a ≠ a → zop n T (zskF n T k a)
  | 0, a, h => absurd rfl h
  | k + 1, a, h => by
    simp only [zskF] at h ⊢
    by_cases c : zby n T a = 10 ∨ zby n T a = 32
    · rw [if_pos c]
      refine zop_skF k (a + 1) ⟨?_, ?_⟩
      · rw [show a + 1 - 1 = a by omega]; omega
      · rw [show a + 1 - 1 = a by omega]
        unfold zdig
        rw [if_neg (by omega)]
    · rw [if_neg c] at h
      exact absurd rfl h
theorem zsk_bl {n : Int} {T : Nat → Int} {a : Int} (h : zsk n T a ≠ a) : zop n T (zsk n T a) := zsk_blF _ _ h
theorem zDr.nm {p : Int} {Q S Q' S' : zS2} (h : zDr p Q S) (h4 : Q' 0 4 = Q 0 4) (hk : ∀ k, k ≠ 0 → k ≠ 1 → Q' k = Q k) (h1 : ∀ q : Nat, (q : Int) < 6 * Q 0 4 → Q' 1 q = Q 1 q) (hS : zFs S S') : zDr p Q' S' := by
  obtain ⟨a, b, c⟩ := h
  refine ⟨by rw [hS 0 15 (by omega), h4]; exact a, by rw [h4]; exact b, fun k hkk => ?_⟩
  rw [h4] at hkk
  obtain ⟨⟨c1, c2, c3, c4⟩, c5, c6, c7⟩ := c k hkk
  have q := hk (7 + k) (by omega) (by omega)
  have f5 : ∀ i, S' 5 i = S 5 i := fun i => hS 5 i (by omega)
  refine ⟨⟨?_, by rw [q]; exact c2, by rw [q]; exact c3, by rw [q]; exact c4⟩, fun i hi => ?_, by rw [f5]; exact c6, by rw [f5]; exact c7⟩
  · rw [q]
    exact c1.fr (fun i _ _ => hS 3 i (by omega))
  · rw [f5, h1 _ (by omega)]
    exact c5 i hi
theorem zsd_0 (Q : zS2) (a c : Int) : zsd Q a c 0 3 = a ∧ zsd Q a c 0 4 = c ∧ (∀ j, j ≠ 3 → j ≠ 4 → zsd Q a c 0 j = Q 0 j) ∧ ∀ k, k ≠ 0 → zsd Q a c k = Q k := by
  unfold zsd
  refine ⟨?_, ?_, fun j h3 h4 => ?_, fun k hk => zset_ne _ _ hk⟩
  · rw [zset_self]; rfl
  · rw [zset_self]; rfl
  · rw [zset_self]
    show (if j = 3 then a else if j = 4 then c else Q 0 j) = _
    rw [if_neg h3, if_neg h4]
/-- the end of a CURVE, both -/
theorem zp_end {n p : Int} {T : Nat → Int} {Q S : zS2} (h : zPs n T p Q S) (hd : zDr p Q S) (h5 : Q 0 4 ≤ 5) (g : zgE S 12 (Q 20)) (gc : zcan p (Q 20)) (gf : zflt (Q 20)) {v b : Int} (hv : 0 ≤ v ∧ v < 1073741824) (hl : ∀ i : Nat, i < 6 → zlt5 v (5 * i) = Q 1 (6 * (Q 0 4).toNat + i)) {S54 : zS2} (h54 : S54 0 7 = b) : zDf S (zcuE v S54 S) ∧ (((zrc3 b Q).1 = 0 ∧ zFl (zrc3 b Q).2 (zcuE v S54 S)) ∨ ((zrc3 b Q).1 = 1 ∧ zPs n T p (zrc3 b Q).2 (zcuE v S54 S) ∧ (zrc3 b Q).2 0 0 = Q 0 0 ∧ zDr p (zrc3 b Q).2 (zcuE v S54 S))) := by
  obtain ⟨hU, h8, h6, hr, hq3, h10⟩ := h
  obtain ⟨d1, d2, d3⟩ := hd
  obtain ⟨k, hk⟩ : ∃ k : Nat, (k : Int) = Q 0 4 := ⟨(Q 0 4).toNat, by omega⟩
  have hkt : (Q 0 4).toNat = k := by omega
  obtain ⟨S1, hS1⟩ : ∃ S1, S1 = zm_copies S (6 + S 0 15) (zm_sumOf 0) := ⟨_, rfl⟩
  have cp : ∀ a i : Nat, S1 a i = if a = 3 ∧ 25 * (6 + k) ≤ i ∧ i < 25 * (6 + k) + 25 then S 3 (25 * 12 + (i - 25 * (6 + k))) else S a i := fun a i => by
    rw [hS1, show 6 + S 0 15 = ((6 + k : Nat) : Int) by omega, show zm_sumOf 0 = ((12 : Nat) : Int) from rfl]
    exact zm_copies_sp S (6 + k) 12 a i
  have s115 : S1 0 15 = k := by rw [cp, if_neg (by omega)]; omega
  obtain ⟨S2, hS2⟩ : ∃ S2, S2 = za S1 5 (6 + k) v := ⟨_, rfl⟩
  have f2 : ∀ a i : Nat, ¬ (a = 5 ∧ i = 6 + k) → ¬ (a = 3 ∧ 25 * (6 + k) ≤ i ∧ i < 25 * (6 + k) + 25) → S2 a i = S a i := fun a i h1 h2 => by rw [hS2, za_ne h1, cp, if_neg h2]
  have g2 : zgE S2 (6 + k) (Q 20) := fun q hq => by
    rw [hS2, za_ne (by omega), cp, if_pos (by omega), show 25 * (6 + k) + q - 25 * (6 + k) = q by omega]
    exact g q hq
  have s215 : S2 0 15 = k := by rw [f2 0 15 (by omega) (by omega)]; omega
  have dg : zm_degreeOf S2 ((6 + k : Nat) : Int) = ztop (Q 20) := by
    rw [zm_degG]
    exact zT_congr (fun i j hij => g2 (5 * i + j) (by omega))
  have eE : zcuE v S54 S = zcuG (if 1 ≤ ztop (Q 20) then S2 else zm_faults S2 5 b) := by
    unfold zcuE
    rw [← hS1, show (6 + S1 0 15).toNat = 6 + k by omega, ← hS2]
    unfold zcuF
    rw [show 6 + S2 0 15 = ((6 + k : Nat) : Int) by omega, dg, ← h54]
    unfold zm_readsCurve_J176
    by_cases c : 1 ≤ ztop (Q 20)
    · rw [if_pos c, if_pos c]
    · rw [if_neg c, if_neg c, zlet_v]
  have df2 : zDf S S2 := fun a i a1 a2 a3 a4 a5 a6 => f2 a i (by omega) (by omega)
  rw [eE]
  by_cases c : 1 ≤ ztop (Q 20)
  · rw [if_pos c]
    obtain ⟨y1, y2, y3, y4⟩ := zsd_0 (zset Q (7 + k) (Q 20)) (Q 0 3) (Q 0 4 + 1)
    obtain ⟨Q', hQ'⟩ : ∃ Q', Q' = zsd (zset Q (7 + k) (Q 20)) (Q 0 3) (Q 0 4 + 1) := ⟨_, rfl⟩
    rw [← hQ'] at y1 y2 y3 y4
    have eC : zrc3 b Q = (1, Q') := by
      unfold zrc3
      rw [if_neg (show ¬ ztop (Q (20 + 0)) < 1 by show ¬ ztop (Q 20) < 1; omega), hkt, hQ']
    obtain ⟨S3, hS3⟩ : ∃ S3, S3 = zcuG S2 := ⟨_, rfl⟩
    have f3 : ∀ a i : Nat, ¬ (a = 0 ∧ i = 15) → S3 a i = S2 a i := fun a i h1 => by
      rw [hS3]
      exact za_ne h1
    have s315 : S3 0 15 = k + 1 := by
      rw [hS3]
      show za S2 0 15 (S2 0 15 + 1) 0 15 = _
      rw [za_same, s215]
    rw [eC, ← hS3]
    have q0 : Q' 0 0 = Q 0 0 := by rw [y3 0 (by decide) (by decide), zset_ne _ _ (by omega)]
    have qk : ∀ x, x ≠ 0 → x ≠ 7 + k → Q' x = Q x := fun x h0 h1 => by rw [y4 x h0, zset_ne _ _ h1]
    have q7 : Q' (7 + k) = Q 20 := by rw [y4 _ (by omega), zset_self]
    refine ⟨df2.tr (fun a i a1 _ _ _ _ _ => f3 a i (by omega)), Or.inr ⟨rfl, ⟨hU.same ?_ (fun i => ?_), ?_, ?_, ?_, ?_, ?_⟩, q0, ⟨?_, ?_, fun c' hc => ?_⟩⟩⟩
    · rw [f3 0 5 (by omega), f2 0 5 (by omega) (by omega)]
    · rw [f3 1 i (by omega), f2 1 i (by omega) (by omega)]
    · rw [f3 0 8 (by omega), f2 0 8 (by omega) (by omega), h8]
    · show S3 0 6 = Q' 0 0
      rw [f3 0 6 (by omega), f2 0 6 (by omega) (by omega), h6, q0]
    · show 0 ≤ Q' 0 0 ∧ Q' 0 0 ≤ n
      rw [q0]
      exact hr
    · show Q' 0 3 = p
      rw [y1, hq3]
    · rw [f3 0 10 (by omega), f2 0 10 (by omega) (by omega), h10]
    · show S3 0 15 = Q' 0 4
      rw [s315, y2]
      omega
    · show 0 ≤ Q' 0 4 ∧ Q' 0 4 ≤ 6
      rw [y2]
      omega
    · have hc : (c' : Int) < Q' 0 4 := hc
      rw [y2] at hc
      show (zgE S3 (6 + c') (Q' (7 + c')) ∧ zcan p (Q' (7 + c')) ∧ zflt (Q' (7 + c')) ∧ 0 < ztop (Q' (7 + c'))) ∧ (∀ i : Nat, i < 6 → zlt5 (S3 5 (6 + c')) (5 * i) = Q' 1 (6 * c' + i)) ∧ 0 ≤ S3 5 (6 + c') ∧ S3 5 (6 + c') < 1073741824
      rw [qk 1 (by decide) (by omega), f3 5 (6 + c') (by omega)]
      by_cases e : c' = k
      · rw [e, q7]
        have ev : S2 5 (6 + k) = v := by rw [hS2, za_same]
        rw [ev]
        refine ⟨⟨g2.fr (fun i _ _ => f3 3 i (by omega)), gc, gf, by omega⟩, fun i hi => ?_, hv⟩
        have := hl i hi
        rw [hkt] at this
        exact this
      · obtain ⟨⟨c1, c2, c3, c4⟩, c5, c6, c7⟩ := d3 c' (by omega)
        rw [qk (7 + c') (by omega) (by omega), f2 5 (6 + c') (by omega) (by omega)]
        exact ⟨⟨c1.fr (fun i h1 h2 => by rw [f3 3 i (by omega), f2 3 i (by omega) (by omega)]), c2, c3, c4⟩, c5, c6, c7⟩
  · rw [if_neg c]
    have eC : zrc3 b Q = (0, zfl 5 b Q) := by
      unfold zrc3
      rw [if_pos (show ztop (Q (20 + 0)) < 1 by show ztop (Q 20) < 1; omega)]
    have s28 : S2 0 8 = 0 := by rw [f2 0 8 (by omega) (by omega), h8]
    have t := zs_flt s28 (zFs.rf (S := S2)) 5 b
    obtain ⟨S3, hS3⟩ : ∃ S3, S3 = zm_faults S2 5 b := ⟨_, rfl⟩
    rw [← hS3] at t ⊢
    have f4 : ∀ a i : Nat, ¬ (a = 0 ∧ i = 15) → zcuG S3 a i = S3 a i := fun a i h1 => za_ne h1
    rw [eC]
    exact ⟨(df2.tr t.1.df).tr (fun a i a1 _ _ _ _ _ => f4 a i (by omega)), Or.inl ⟨rfl, zFl_of (by rw [f4 0 8 (by omega)]; exact t.2.1) (by rw [f4 0 9 (by omega)]; exact t.2.2) (by decide) _⟩⟩
end ZJk
