section ZId
/-- loops whose turns are alike make the same -/
theorem zfor_congr {σ : Type} {s t : Int → σ → σ} {a : Int} {x : σ} : ∀ k : Nat, (∀ i y, a ≤ i → i < a + k → s i y = t i y) → zfor s a x k = zfor t a x k
  | 0, _ => rfl
  | k + 1, h => by
    show s (a + k) (zfor s a x k) = t (a + k) (zfor t a x k)
    rw [zfor_congr k (fun i y h1 h2 => h i y h1 (by omega)), h (a + k) _ (by omega) (by omega)]
/-- two loops side by side -/
theorem zfor_rel {σ τ : Type} {s : Int → σ → σ} {t : Int → τ → τ} {a : Int} (I : σ → τ → Prop) {x : σ} {y : τ} (h0 : I x y) : ∀ k : Nat, (∀ i u v, a ≤ i → i < a + k → I u v → I (s i u) (t i v)) → I (zfor s a x k) (zfor t a y k)
  | 0, _ => h0
  | k + 1, h => h (a + k) _ _ (by omega) (by omega) (zfor_rel I h0 k (fun i u v h1 h2 hI => h i u v h1 (by omega) hI))
/-- rows that are alike where they are known, up to a width -/
def zRw (w : Int) (K : Nat → Int) (R S : Nat → Nat → Int) : Prop := ∀ c, K c ≠ 0 → ∀ k : Nat, (k : Int) < w → R c k = S c k
theorem zlin_ind {r q : Nat → Int} {o p w i : Int} (h0 : 0 ≤ i) (h : ∀ k : Nat, (k : Int) < w → r k = q k) (c : Nat → Int) : zlin r o p w i c = zlin q o p w i c := by
  unfold zlin
  refine zfor_congr _ (fun k y h1 h2 => ?_)
  unfold zlin_s
  rw [h k.toNat (by omega)]
theorem zsp_ind {K : Nat → Int} {R S : Nat → Nat → Int} {w p : Int} (h : zRw w K R S) : ∀ (n : Nat) (i : Int) (c : Nat → Int), 0 ≤ i → zsp K R w p n i c = zsp K S w p n i c
  | 0, _, _, _ => rfl
  | n + 1, i, c, hi => by
    simp only [zsp]
    by_cases h1 : c i.toNat = 0
    · rw [if_pos h1, if_pos h1]
      exact zsp_ind h n (i + 1) c (by omega)
    · rw [if_neg h1, if_neg h1]
      by_cases h2 : K i.toNat = 0
      · rw [if_pos h2, if_pos h2]
      · rw [if_neg h2, if_neg h2, zlin_ind hi (h _ h2)]
        exact zsp_ind h n (i + 1) _ (by omega)
theorem zspan_ind {K : Nat → Int} {R S : Nat → Nat → Int} {w lim p : Int} {c : Nat → Int} (h : zRw w K R S) : zspan K R w lim p c = zspan K S w lim p c := zsp_ind h _ 0 c (Int.le_refl _)
theorem zspK_ind {K : Nat → Int} {R S : Nat → Nat → Int} {w lim p : Int} {c : Nat → Int} (h : zRw w K R S) : zspK K R w lim p c = zspK K S w lim p c := by unfold zspK; rw [zspan_ind h]
theorem zsp1_ind {K : Nat → Int} {R S : Nat → Nat → Int} {w lim p : Int} {c : Nat → Int} (h : zRw w K R S) : zsp1 K R w lim p c = zsp1 K S w lim p c := by unfold zsp1; rw [zspan_ind h]
theorem zspR_ind {K : Nat → Int} {R S : Nat → Nat → Int} {w lim p : Int} {c : Nat → Int} (h : zRw w K R S) : zRw w (zspK K R w lim p c) (zspR K R w lim p c) (zspR K S w lim p c) := by
  intro a ha k hk
  unfold zspR
  unfold zspK at ha
  rw [← zspan_ind h]
  generalize zspan K R w lim p c = z at ha ⊢
  obtain ⟨o, d⟩ := z
  cases o with
  | none => exact h a ha k hk
  | some j =>
    show zset R j.toNat _ a k = zset S j.toNat _ a k
    by_cases e : a = j.toNat
    · rw [e, zset_self, zset_self]
      unfold zkeep
      rw [if_pos hk, if_pos hk]
    · rw [zset_ne _ _ e, zset_ne _ _ e]
      refine h a ?_ k hk
      have hz : zup K j.toNat 1 a ≠ 0 := ha
      rw [zup_ne _ _ e] at hz
      exact hz
/-- states of the search that are alike -/
def zSgR (s t : zSg) : Prop := s.2.1 = t.2.1 ∧ zRw 60 s.2.1 s.1 t.1
theorem zsg_ind {p : Int} {l : Nat → Int} {s t : zSg} (h : zSgR s t) : zSgR (zsg p l s) (zsg p l t) ∧ (zsg p l s).2.2 = (zsg p l t).2.2 := by
  obtain ⟨R, K, ln⟩ := s
  obtain ⟨S, K2, ln2⟩ := t
  obtain ⟨h1, h2⟩ := h
  have h1 : K = K2 := h1
  subst h1
  exact ⟨⟨zspK_ind h2, zspR_ind h2⟩, by show (zspan K R 60 45 p l).2 = (zspan K S 60 45 p l).2; rw [zspan_ind h2]⟩
theorem zfcI_ind (q : Nat → Int) (p d : Int) : ∀ (n : Nat) (j : Int) (s t : zSg), zSgR s t → (zfcI q p d n j s).1 = (zfcI q p d n j t).1 ∧ zSgR (zfcI q p d n j s).2 (zfcI q p d n j t).2
  | 0, _, _, _, h => ⟨rfl, h⟩
  | n + 1, j, s, t, h => by
    have hs := zsg_ind (p := p) (l := zfcl q d j) h
    have h1 : zsp1 s.2.1 s.1 60 45 p (zfcl q d j) = zsp1 t.2.1 t.1 60 45 p (zfcl q d j) := by
      rw [← h.1]
      exact zsp1_ind h.2
    simp only [zfcI]
    rw [h1]
    by_cases e : zsp1 t.2.1 t.1 60 45 p (zfcl q d j) = 0
    · rw [if_pos e, if_pos e]
      exact ⟨by rw [hs.2], hs.1⟩
    · rw [if_neg e, if_neg e]
      exact zfcI_ind q p d n (j + 1) _ _ hs.1
theorem zfcO_ind (q : Nat → Int) (p : Int) : ∀ (n : Nat) (d : Int) (s t : zSg), zSgR s t → (zfcO q p n d s).1 = (zfcO q p n d t).1
  | 0, _, _, _, _ => rfl
  | n + 1, d, s, t, h => by
    have hI := zfcI_ind q p d (d + 1 - 0).toNat 0 s t h
    show (match zfcI q p d (d + 1 - 0).toNat 0 s with
      | (some c, s2) => (some c, s2)
      | (none, s2) => zfcO q p n (d + 1) s2).1 = (match zfcI q p d (d + 1 - 0).toNat 0 t with
      | (some c, s2) => (some c, s2)
      | (none, s2) => zfcO q p n (d + 1) s2).1
    generalize zfcI q p d (d + 1 - 0).toNat 0 s = u at hI ⊢
    generalize zfcI q p d (d + 1 - 0).toNat 0 t = v at hI ⊢
    obtain ⟨o, s2⟩ := u
    obtain ⟨o2, t2⟩ := v
    obtain ⟨ho, hr⟩ := hI
    have ho : o = o2 := ho
    subst ho
    cases o with
    | some c => rfl
    | none => exact zfcO_ind q p n (d + 1) s2 t2 hr
/-- the COMMON PART, whatever the rows were before -/
def zcmP (a b : Nat → Int) (p : Int) : Nat → Int := zcom a b p (fun _ _ => 0) (fun _ => 0)
theorem zcom_ind (a b : Nat → Int) (p : Int) (R : Nat → Nat → Int) (l : Nat → Int) : zcom a b p R l = zcmP a b p := by
  unfold zcmP zcom zcofa
  have hf : zSgR (zfnd a b p R l) (zfnd a b p (fun _ _ => 0) (fun _ => 0)) := by
    unfold zfnd
    have h0 : zSgR (R, (fun _ => 0), l) ((fun _ _ => 0), (fun _ => 0), (fun _ => 0)) := ⟨rfl, fun c hc => absurd (rfl : (0 : Int) = 0) hc⟩
    refine zfor_rel zSgR h0 _ (fun i u v _ _ h => ?_)
    exact zfor_rel zSgR h _ (fun j u v _ _ h => (zsg_ind h).1)
  unfold zfc
  rw [zfcO_ind a p _ 0 _ _ hf]
/-- columns that are alike where a TERM has one -/
def zClR (c d : Nat → Int) : Prop := ∀ i j : Int, 0 ≤ i → 0 ≤ j → i + j ≤ 24 → c (i * 25 + j).toNat = d (i * 25 + j).toNat
theorem zcolm_ind (top lx ly : Int) (c d : Nat → Int) : (zcolm top lx ly c).2 = (zcolm top lx ly d).2 ∧ zClR (zcolm top lx ly c).1 (zcolm top lx ly d).1 := by
  have key : ∀ n : Nat, n ≤ 25 → (zfor (zcolm_out top lx ly) 0 (c, 0) n).2 = (zfor (zcolm_out top lx ly) 0 (d, 0) n).2 ∧ ∀ i j : Int, 0 ≤ i → i < n → 0 ≤ j → i + j ≤ 24 → (zfor (zcolm_out top lx ly) 0 (c, 0) n).1 (i * 25 + j).toNat = (zfor (zcolm_out top lx ly) 0 (d, 0) n).1 (i * 25 + j).toNat := by
    intro n
    induction n with
    | zero => intro _; exact ⟨rfl, fun i j h1 h2 => by omega⟩
    | succ n ih =>
      intro hn
      obtain ⟨h1, h2⟩ := ih (by omega)
      show (zcolm_out top lx ly (0 + n) (zfor (zcolm_out top lx ly) 0 (c, 0) n)).2 = (zcolm_out top lx ly (0 + n) (zfor (zcolm_out top lx ly) 0 (d, 0) n)).2 ∧ ∀ i j : Int, 0 ≤ i → i < (n + 1 : Nat) → 0 ≤ j → i + j ≤ 24 → (zcolm_out top lx ly (0 + n) (zfor (zcolm_out top lx ly) 0 (c, 0) n)).1 (i * 25 + j).toNat = (zcolm_out top lx ly (0 + n) (zfor (zcolm_out top lx ly) 0 (d, 0) n)).1 (i * 25 + j).toNat
      generalize zfor (zcolm_out top lx ly) 0 (c, 0) n = u at h1 h2 ⊢
      generalize zfor (zcolm_out top lx ly) 0 (d, 0) n = v at h1 h2 ⊢
      have inner : ∀ m : Nat, (m : Int) ≤ 25 - n → (zfor (zcolm_in top lx ly (0 + n)) 0 u m).2 = (zfor (zcolm_in top lx ly (0 + n)) 0 v m).2 ∧ ∀ i j : Int, 0 ≤ i → i < (n + 1 : Nat) → 0 ≤ j → i + j ≤ 24 → (i < n ∨ j < m) → (zfor (zcolm_in top lx ly (0 + n)) 0 u m).1 (i * 25 + j).toNat = (zfor (zcolm_in top lx ly (0 + n)) 0 v m).1 (i * 25 + j).toNat := by
        intro m
        induction m with
        | zero => intro _; exact ⟨h1, fun i j a1 a2 a3 a4 a5 => h2 i j a1 (by omega) a3 a4⟩
        | succ m ihm =>
          intro hm
          obtain ⟨k1, k2⟩ := ihm (by omega)
          show (zcolm_in top lx ly (0 + n) (0 + m) (zfor (zcolm_in top lx ly (0 + n)) 0 u m)).2 = (zcolm_in top lx ly (0 + n) (0 + m) (zfor (zcolm_in top lx ly (0 + n)) 0 v m)).2 ∧ ∀ i j : Int, 0 ≤ i → i < (n + 1 : Nat) → 0 ≤ j → i + j ≤ 24 → (i < n ∨ j < (m + 1 : Nat)) → (zcolm_in top lx ly (0 + n) (0 + m) (zfor (zcolm_in top lx ly (0 + n)) 0 u m)).1 (i * 25 + j).toNat = (zcolm_in top lx ly (0 + n) (0 + m) (zfor (zcolm_in top lx ly (0 + n)) 0 v m)).1 (i * 25 + j).toNat
          generalize zfor (zcolm_in top lx ly (0 + n)) 0 u m = s at k1 k2 ⊢
          generalize zfor (zcolm_in top lx ly (0 + n)) 0 v m = t at k1 k2 ⊢
          unfold zcolm_in
          rw [k1]
          refine ⟨rfl, fun i j a1 a2 a3 a4 a5 => ?_⟩
          show zup s.1 _ _ _ = zup t.1 _ _ _
          by_cases e : (i * 25 + j).toNat = ((0 + (n : Int)) * 25 + (0 + (m : Int))).toNat
          · rw [e, zup_self, zup_self]
          · rw [zup_ne _ _ e, zup_ne _ _ e]
            exact k2 i j a1 a2 a3 a4 (by omega)
      have hi := inner (24 - (0 + (n : Int)) + 1 - 0).toNat (by omega)
      exact ⟨hi.1, fun i j a1 a2 a3 a4 => hi.2 i j a1 a2 a3 a4 (by omega)⟩
  have hk := key 25 (by decide)
  exact ⟨hk.1, fun i j a1 a2 a3 => hk.2 i j a1 (by omega) a2 a3⟩
def zRtR (w : Int) (s t : zRt) : Prop := s.2.1 = t.2.1 ∧ zRw w s.2.1 s.1 t.1 ∧ s.2.2.2.2 = t.2.2.2.2
theorem zrl_ind {row c d : Nat → Int} {top : Int} (ht : top ≤ 24) (h : zClR c d) : zrl row c top = zrl row d top := by
  unfold zrl
  refine zfor_congr _ (fun i y h1 h2 => ?_)
  unfold zrl_out
  refine zfor_congr _ (fun j z h3 h4 => ?_)
  unfold zrl_in
  rw [h i j h1 h3 (by omega)]
theorem zam_ind {g d c c2 : Nat → Int} {lx ly p top lc wd m : Int} {s t : zRt} (ht : top ≤ 24) (hm : m ≤ 24) (hc : zClR c c2) (h : zRtR wd s t) : zRtR wd (zam g d c lx ly p top lc wd m s) (zam g d c2 lx ly p top lc wd m t) := by
  unfold zam
  refine zfor_rel (zRtR wd) h _ (fun i u v h1 h2 hI => ?_)
  unfold zam_out
  refine zfor_rel (zRtR wd) hI _ (fun j x y h3 h4 hJ => ?_)
  obtain ⟨q1, q2, q3⟩ := hJ
  unfold zam_in
  rw [hc i j h1 h3 (by omega)]
  by_cases e : 0 ≤ c2 (i * 25 + j).toNat
  · rw [if_pos e, if_pos e, zrl_ind ht hc]
    exact ⟨by show zspK x.2.1 x.1 _ _ _ _ = zspK y.2.1 y.1 _ _ _ _; rw [← q1]; exact zspK_ind q2, by show zRw wd (zspK x.2.1 x.1 _ _ _ _) (zspR x.2.1 x.1 _ _ _ _) (zspR y.2.1 y.1 _ _ _ _); rw [← q1]; exact zspR_ind q2, by show _ + zsp1 x.2.1 x.1 _ _ _ _ = _ + zsp1 y.2.1 y.1 _ _ _ _; rw [← q1, q3, zsp1_ind q2]⟩
  · rw [if_neg e, if_neg e]
    exact ⟨q1, q2, q3⟩
def zszP (d e : Nat → Int) (p : Int) : Int := zsize d e p (fun _ _ => 0) (fun _ => 0) (fun _ => 0) (fun _ => 0)
theorem zsize_ind (d e : Nat → Int) (p : Int) (R : Nat → Nat → Int) (col ln row : Nat → Int) : zsize d e p R col ln row = zszP d e p := by
  have hc := zcolm_ind 16 (zflead d 1).1 (zflead d 1).2 col (fun _ => 0)
  unfold zszP zsize
  have e2 : (zszS d p 16 1 col).2 = (zszS d p 16 1 (fun _ => 0)).2 := hc.1
  have hr := zam_ind (g := e) (d := d) (p := p) (lx := (zflead d 1).1) (ly := (zflead d 1).2) (top := 16) (lc := 1) (wd := (zszS d p 16 1 (fun _ => 0)).2) (m := 16) (c := (zszS d p 16 1 col).1) (c2 := (zszS d p 16 1 (fun _ => 0)).1) (s := (R, fun _ => 0, ln, row, 0)) (t := (fun _ _ => 0, fun _ => 0, fun _ => 0, fun _ => 0, 0)) (by decide) (by decide) hc.2 ⟨rfl, fun c hc => absurd rfl hc, rfl⟩
  rw [e2, hr.2.2]
def znrP (d e : Nat → Int) (p : Int) : Int := znear d e p (fun _ _ => 0) (fun _ => 0) (fun _ => 0) (fun _ => 0)
theorem znr_ind {c c2 : Nat → Int} {wd p : Int} {s t : zRt} (hc : zClR c c2) (h : zRtR wd s t) : zRtR wd (znr c wd p s) (znr c2 wd p t) := by
  unfold znr
  refine zfor_rel (zRtR wd) h _ (fun i u v h1 h2 hI => ?_)
  unfold znr_out
  refine zfor_rel (zRtR wd) hI _ (fun j x y h3 h4 hJ => ?_)
  obtain ⟨q1, q2, q3⟩ := hJ
  unfold znr_in
  rw [hc i j h1 h3 (by omega)]
  by_cases e : 0 ≤ c2 (i * 25 + j).toNat
  · rw [if_pos e, if_pos e]
    exact ⟨by show zspK x.2.1 x.1 _ _ _ _ = zspK y.2.1 y.1 _ _ _ _; rw [← q1]; exact zspK_ind q2, by show zRw wd (zspK x.2.1 x.1 _ _ _ _) (zspR x.2.1 x.1 _ _ _ _) (zspR y.2.1 y.1 _ _ _ _); rw [← q1]; exact zspR_ind q2, by show _ + zsp1 x.2.1 x.1 _ _ _ _ = _ + zsp1 y.2.1 y.1 _ _ _ _; rw [← q1, q3, zsp1_ind q2]⟩
  · rw [if_neg e, if_neg e]
    exact ⟨q1, q2, q3⟩
theorem znear_ind (d e : Nat → Int) (he : 0 ≤ ztop e) (p : Int) (R : Nat → Nat → Int) (col ln row : Nat → Int) : znear d e p R col ln row = znrP d e p := by
  have hc := zcolm_ind 24 (zflead d 0).1 (zflead d 0).2 col (fun _ => 0)
  unfold znrP znear
  have e2 : (zszS d p 24 0 col).2 = (zszS d p 24 0 (fun _ => 0)).2 := hc.1
  have ht := ztop_rng e
  have hr := zam_ind (g := e) (d := d) (p := p) (lx := (zflead d 0).1) (ly := (zflead d 0).2) (top := 24) (lc := 0) (wd := (zszS d p 24 0 (fun _ => 0)).2) (m := 24 - ztop e) (c := (zszS d p 24 0 col).1) (c2 := (zszS d p 24 0 (fun _ => 0)).1) (s := (R, fun _ => 0, ln, row, 0)) (t := (fun _ _ => 0, fun _ => 0, fun _ => 0, fun _ => 0, 0)) (by decide) (show 24 - ztop e ≤ 24 by omega) hc.2 ⟨rfl, fun c hc => absurd rfl hc, rfl⟩
  have hn := znr_ind (c := (zszS d p 24 0 col).1) (c2 := (zszS d p 24 0 (fun _ => 0)).1) (p := p) (wd := (zszS d p 24 0 (fun _ => 0)).2) (s := ((znear1 d e p R col ln row).1, (znear1 d e p R col ln row).2.1, (znear1 d e p R col ln row).2.2.1, (znear1 d e p R col ln row).2.2.2.1, 0)) (t := ((znear1 d e p (fun _ _ => 0) (fun _ => 0) (fun _ => 0) (fun _ => 0)).1, (znear1 d e p (fun _ _ => 0) (fun _ => 0) (fun _ => 0) (fun _ => 0)).2.1, (znear1 d e p (fun _ _ => 0) (fun _ => 0) (fun _ => 0) (fun _ => 0)).2.2.1, (znear1 d e p (fun _ _ => 0) (fun _ => 0) (fun _ => 0) (fun _ => 0)).2.2.2.1, 0)) hc.2 (by
    unfold znear1
    rw [e2]
    exact ⟨hr.1, hr.2.1, rfl⟩)
  rw [e2]
  exact hn.2.2
end ZId
