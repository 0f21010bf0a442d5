section ZLt
theorem zCP.same {cI cP cS cZ cM : ClassId} {o : Nat} {M : zCt} {f g : Nat → va_E} (h : zCP cI cP cS cZ cM o M f) (hs : ∀ q, o ≤ q → q < o + 681 → g q = f q) : zCP cI cP cS cZ cM o M g :=
  ⟨zX0.same h.c0 (fun q h1 h2 => hs q (by omega) (by omega)), zX1.same h.c1 (fun q h1 h2 => hs q (by omega) (by omega)), zX2.same h.c2 (fun q h1 h2 => hs q (by omega) (by omega)), zX3.same h.c3 (fun q h1 h2 => hs q (by omega) (by omega)), zX4.same h.c4 (fun q h1 h2 => hs q (by omega) (by omega)), zX5.same h.c5 (fun q h1 h2 => hs q (by omega) (by omega)), zX6.same h.c6 (fun q h1 h2 => hs q (by omega) (by omega)), zX7.same h.c7 (fun q h1 h2 => hs q (by omega) (by omega)), zX8.same h.c8 (fun q h1 h2 => hs q (by omega) (by omega)), zX9.same h.c9 (fun q h1 h2 => hs q (by omega) (by omega)), zX10.same h.c10 (fun q h1 h2 => hs q (by omega) (by omega)), zX11.same h.c11 (fun q h1 h2 => hs q (by omega) (by omega)), zX12.same h.c12 (fun q h1 h2 => hs q (by omega) (by omega))⟩
theorem zW.nz {D : va_G} {tys : List (ClassId × FieldType)} {L : List Nat} {A : Nat → Prop} {s : State} {f : Nat → va_E} {H0 H : Heap} {locs : List Loc} (hW : zW D tys L A s f H0 H locs) {a : Nat} (h : a ∈ L) : f a ≠ zJ := fun e => by
  obtain ⟨k, hk⟩ := zpl_at (D := D) (f := f) h
  have z := hW.1 k _ hk
  rw [e] at z
  have z : ∃ r : vw_C, vwCl[99]? = some r ∧ _ := z
  obtain ⟨r, hr, _⟩ := z
  cases hr
/-- the object's own cells stand -/
def zOb (o : Nat) (f : Nat → va_E) : Prop := ∀ b, o ≤ b → b < o + 681 → f b ≠ zJ
theorem zOb.kp {o : Nat} {f g : Nat → va_E} (h : zOb o f) (hk : zKp2 f g) : zOb o g := fun b h1 h2 => by
  rw [hk b (h b h1 h2)]
  exact h b h1 h2
theorem zCP.kp {cI cP cS cZ cM : ClassId} {o : Nat} {M : zCt} {f g : Nat → va_E} (h : zCP cI cP cS cZ cM o M f) (ho : zOb o f) (hk : zKp2 f g) : zCP cI cP cS cZ cM o M g := h.same (fun q h1 h2 => hk q (ho q h1 h2))
theorem zTo.of {cJ : ClassId} {f g : Nat → va_E} {h n o : Nat} {t : Nat → Int} (hx : zTn cJ f g h n t) (hh : f h = zJ) (ho : zOb o f) : zTo cJ g h n t o := by
  obtain ⟨b, d, x, y, ⟨h1, h2, h3, h4⟩, h5⟩ := hx
  exact ⟨b, d, x, y, h1, h2, h3, h4, fun z => ho h z.1 z.2 hh, fun z => ho b z.1 z.2 h5⟩
/-- the law's text -/
def zlw (p : Int) (d e : Nat → Nat → Int) : List Int := [] ++ [102, 105, 101, 108, 100, 32] ++ [48 + p] ++ [59, 99, 117, 114, 118, 101, 32, 97, 32, 61, 32] ++ (zts d 25) ++ [59, 99, 117, 114, 118, 101, 32, 98, 32, 61, 32] ++ (zts e 25) ++ [59]
theorem zof_l {l : List Int} (h : ∀ x ∈ l, zlr7 x) : ∀ j, j < l.length → zlr7 (zof l j) := fun j hj => by
  unfold zof
  rw [List.getD_eq_getElem?_getD, List.getElem?_eq_getElem hj]
  exact h _ (List.getElem_mem hj)
theorem zte_l {d : Nat → Nat → Int} (hd : ∀ a b : Nat, 0 ≤ d a b ∧ d a b < 7) {i j : Nat} (hi : i < 5) (hj : j < 5) : ∀ x ∈ zte d i j, zlr7 x := fun x hx => by
  unfold zte at hx
  have := hd i j
  split at hx
  · exact absurd hx List.not_mem_nil
  · simp only [List.mem_cons, List.not_mem_nil, or_false] at hx
    unfold zlr7
    omega
theorem zts_l {d : Nat → Nat → Int} (hd : ∀ a b : Nat, 0 ≤ d a b ∧ d a b < 7) : ∀ k, k ≤ 25 → ∀ x ∈ zts d k, zlr7 x
  | 0, _ => fun x hx => by
    have e : x = 48 := List.mem_singleton.mp hx
    unfold zlr7
    omega
  | k + 1, hk => fun x hx => by
    rcases List.mem_append.mp hx with h | h
    · exact zts_l hd k (by omega) x h
    · exact zte_l hd (by omega) (by omega) x h
theorem zlw_l {p : Int} {d e : Nat → Nat → Int} (hp : 2 ≤ p ∧ p ≤ 7) (hd : ∀ a b : Nat, 0 ≤ d a b ∧ d a b < 7) (he : ∀ a b : Nat, 0 ≤ e a b ∧ e a b < 7) : ∀ x ∈ zlw p d e, zlr7 x := fun x hx => by
  unfold zlw at hx
  simp only [List.mem_append, List.not_mem_nil, false_or] at hx
  rcases hx with (((((h | h) | h) | h) | h) | h) | h
  · simp only [List.mem_cons, List.not_mem_nil, or_false] at h
    unfold zlr7
    omega
  · simp only [List.mem_cons, List.not_mem_nil, or_false] at h
    unfold zlr7
    omega
  · simp only [List.mem_cons, List.not_mem_nil, or_false] at h
    unfold zlr7
    omega
  · exact zts_l hd 25 (Nat.le_refl _) x h
  · simp only [List.mem_cons, List.not_mem_nil, or_false] at h
    unfold zlr7
    omega
  · exact zts_l he 25 (Nat.le_refl _) x h
  · simp only [List.mem_cons, List.not_mem_nil, or_false] at h
    unfold zlr7
    omega
def zTV (v : Int) : Int := if v = 0 then -2 else 0
theorem zTV_s (v : Int) : (v = 0 ∧ zTV v = -2) ∨ (v ≠ 0 ∧ zTV v = 0) := by
  unfold zTV
  split
  · exact Or.inl ⟨by assumption, rfl⟩
  · exact Or.inr ⟨by assumption, rfl⟩
/-- what the reader makes of the law's text -/
def zParse : Prop := ∀ (p dg de : Int) (d e : Nat → Nat → Int) (N : zCt), (p = 2 ∨ p = 3 ∨ p = 5 ∨ p = 7) → (1 ≤ dg ∧ dg ≤ 4) → (1 ≤ de ∧ de ≤ 3) → (∀ a b : Nat, 0 ≤ d a b ∧ d a b < p) → (∀ a b : Nat, dg < (a : Int) + b → d a b = 0) → zHas d dg → (∀ a b : Nat, 0 ≤ e a b ∧ e a b < p) → (∀ a b : Nat, de < (a : Int) + b → e a b = 0) → zHas e de → zCI N → zVT N zM0 → N.1 0 2 = ((zlw p d e).length : Nat) → (∀ i : Nat, i < (zlw p d e).length → N.1 2 i = zof (zlw p d e) i) →
  (zc_curves N).1 = 2 ∧ ∃ a b, zP2 (zc_curves N).2 p a b ∧ zcan p a ∧ zcan p b ∧ zflt a ∧ zflt b ∧ (1 ≤ ztop a ∧ ztop a ≤ 4) ∧ (1 ≤ ztop b ∧ ztop b ≤ 3)
theorem zPr_4 {p : Int} (h : p = 2 ∨ p = 3 ∨ p = 5 ∨ p = 7) : zPr p := by
  unfold zPr
  omega
theorem zws_at {w : Cond} (k j : Nat) (h : ((zLL[k]?).bind (fun l => l[j]?)) = some w) : w ∈ wsL_law := by
  cases hl : zLL[k]? with
  | none => rw [hl] at h; cases h
  | some l => rw [hl] at h; exact (zLL_ok l (List.mem_of_getElem? hl) w (List.mem_of_getElem? h)).1
end ZLt
