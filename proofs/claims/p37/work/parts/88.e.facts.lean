section ZMi
theorem zlet_v {α β : Type} (v : α) (k : α → β) : zlet v k = k v := rfl
theorem zw_look1_o {M : zCt} {d : Nat → Int} {p : Int} {k i : Nat} (h : k ≠ 20) (h2 : ¬ (k = 0 ∧ i = 13)) : (zw_look1 M d p).1 k i = M.1 k i := by
  show zset (za M.1 0 13 p) 20 (zlook d p (M.1 0 10) (M.1 0 11) (M.1 0 12)) k i = _
  rw [zset_ne _ _ h, za_ne h2]
theorem zw_look1_13 {M : zCt} {d : Nat → Int} {p : Int} : (zw_look1 M d p).1 0 13 = p := by
  show zset (za M.1 0 13 p) 20 (zlook d p (M.1 0 10) (M.1 0 11) (M.1 0 12)) 0 13 = _
  rw [zset_ne _ _ (by decide), za_same]
theorem zc_look {M : zCt} (hC : zCI M) {cv pt : Int} (hc : 0 ≤ cv ∧ cv < M.1 0 4) (hpt : zpt pt (M.1 0 3)) : ∃ N, zc_lookAt M cv pt = (1, N) ∧ zVE N M ∧ zCI N ∧ N.1 20 = zLk M cv pt ∧ N.1 0 13 = M.1 0 3 ∧ N.1 0 10 = zpx pt (M.1 0 3) ∧ N.1 0 11 = zpy pt (M.1 0 3) ∧ N.1 0 12 = zpz pt (M.1 0 3) := by
  have hp := hC.p
  obtain ⟨⟨g1, g2, g3⟩, _⟩ := zgo_rng (M := M) hp (n := pt) (by rw [bI_t hpt]; decide)
  have e3 : (zw_go M pt (M.1 0 3)).1 0 3 = M.1 0 3 := zv_go.p
  refine ⟨zw_look1 (zw_go M pt (M.1 0 3)) (M.2.1 cv.toNat) (M.1 0 3), ?_, zv_look1.tr zv_go, zi_look1 (zi_go hC) hp, ?_, ?_, ?_, ?_, ?_⟩
  · unfold zc_lookAt
    rw [if_pos ((zc_find hC).2 hc), bI_t hpt]
    show (1, zw_look1 (zw_go M pt (M.1 0 3)) (M.2.1 cv.toNat) ((zw_go M pt (M.1 0 3)).1 0 3)) = _
    rw [e3]
  · show zset (za (zw_go M pt (M.1 0 3)).1 0 13 (M.1 0 3)) 20 (zlook (M.2.1 cv.toNat) (M.1 0 3) ((zw_go M pt (M.1 0 3)).1 0 10) ((zw_go M pt (M.1 0 3)).1 0 11) ((zw_go M pt (M.1 0 3)).1 0 12)) 20 = _
    rw [zset_self, g1, g2, g3]
    rfl
  · exact zw_look1_13
  · rw [zw_look1_o (by decide) (by decide), g1]
  · rw [zw_look1_o (by decide) (by decide), g2]
  · rw [zw_look1_o (by decide) (by decide), g3]
theorem zc_look0 {M : zCt} (hC : zCI M) {cv pt : Int} (h : ¬ ((0 ≤ cv ∧ cv < M.1 0 4) ∧ zpt pt (M.1 0 3))) : ∃ N, zc_lookAt M cv pt = (0, N) ∧ zVE N M ∧ zCI N := by
  unfold zc_lookAt
  by_cases h1 : 0 ≤ cv ∧ cv < M.1 0 4
  · rw [if_pos ((zc_find hC).2 h1), bI_f (fun q => h ⟨h1, q⟩)]
    exact ⟨_, rfl, zv_go, zi_go hC⟩
  · rw [if_neg (fun q => h1 ((zc_find hC).1 q))]
    exact ⟨_, rfl, zVE.rf, hC⟩
end ZMi
section ZMj
/-- two loops that look for the k-th POINT -/
theorem zc_pair {M : zCt} {S : zS2} {cv k tr : Int} {T : Int → Prop} (dT : ∀ q, Decidable (T q)) (hT : ∀ N q, zVE N M → zpt q (M.1 0 3) → ∃ N', zVE N' M ∧ zc_hasTrait N cv q tr = (if T q then 1 else 0, N')) {W : Nat → Int → Int → zS2 → (Int × zS2) ⊕ (Int × Int × zS2)} (hW0 : ∀ n q U, W 0 n q U = .inr (n, q, U)) (hW : ∀ fu n q U, zFm S U → 0 ≤ q → ∃ U', zFm S U' ∧ W (fu + 1) n q U = (if zmany (M.1 0 3) ≤ q then .inr (n, q, U) else if T q then (if n = k then .inl (q, U') else W fu (n + 1) (q + 1) U') else W fu n (q + 1) U')) : ∀ (fu : Nat) (n q : Int) (N : zCt) (U : zS2), zVE N M → zFm S U → 0 ≤ q →
    (∃ r N' U', zc_choose_W40 cv k tr (zmany (M.1 0 3)) fu n q N = .inl (r, N') ∧ W fu n q U = .inl (r, U') ∧ zVE N' M ∧ zFm S U') ∨ ∃ n' q' N' U', zc_choose_W40 cv k tr (zmany (M.1 0 3)) fu n q N = .inr (n', q', N') ∧ W fu n q U = .inr (n', q', U') ∧ zVE N' M ∧ zFm S U'
  | 0, n, q, N, U, hN, hU, _ => Or.inr ⟨n, q, N, U, rfl, hW0 n q U, hN, hU⟩
  | fu + 1, n, q, N, U, hN, hU, hq => by
    obtain ⟨U', u1, u2⟩ := hW fu n q U hU hq
    by_cases h1 : zmany (M.1 0 3) ≤ q
    · exact Or.inr ⟨n, q, N, U, by simp only [zc_choose_W40]; rw [if_pos h1], by rw [u2, if_pos h1], hN, hU⟩
    · obtain ⟨N', n1, n2⟩ := hT N q hN (zpt_many hq h1)
      have ec : zc_choose_W40 cv k tr (zmany (M.1 0 3)) (fu + 1) n q N = (if (zc_hasTrait N cv q tr).1 = 0 then zc_choose_W40 cv k tr (zmany (M.1 0 3)) fu n (q + 1) (zc_hasTrait N cv q tr).2 else (if n = k then .inl (q, (zc_hasTrait N cv q tr).2) else zc_choose_W40 cv k tr (zmany (M.1 0 3)) fu (n + 1) (q + 1) (zc_hasTrait N cv q tr).2)) := by
        simp only [zc_choose_W40]
        rw [if_neg h1]
        rfl
      rw [u2, if_neg h1, ec, n2]
      by_cases e : T q
      · rw [if_pos e, if_pos e, if_neg (show ¬ ((1 : Int), N').1 = 0 from by show ¬ (1 : Int) = 0; decide)]
        by_cases e2 : n = k
        · rw [if_pos e2, if_pos e2]
          exact Or.inl ⟨q, N', U', rfl, rfl, n1, u1⟩
        · rw [if_neg e2, if_neg e2]
          exact zc_pair dT hT hW0 hW fu (n + 1) (q + 1) _ _ n1 u1 (by omega)
      · rw [if_neg e, if_neg e, if_pos (show ((0 : Int), N').1 = 0 from rfl)]
        exact zc_pair dT hT hW0 hW fu n (q + 1) _ _ n1 u1 (by omega)
theorem zc_pick {i : Int} {M : zCt} {S : zS2} (hR : zBm i M S) (hC : zCI M) {cv k tr : Int} {T : Int → Prop} (dT : ∀ q, Decidable (T q)) (hc : 0 ≤ cv ∧ cv < M.1 0 4) (hT : ∀ N q, zVE N M → zpt q (M.1 0 3) → ∃ N', zVE N' M ∧ zc_hasTrait N cv q tr = (if T q then 1 else 0, N')) {W : Nat → Int → Int → zS2 → (Int × zS2) ⊕ (Int × Int × zS2)} (hW0 : ∀ n q U, W 0 n q U = .inr (n, q, U)) (hW : ∀ fu n q U, zFm S U → 0 ≤ q → ∃ U', zFm S U' ∧ W (fu + 1) n q U = (if zmany (M.1 0 3) ≤ q then .inr (n, q, U) else if T q then (if n = k then .inl (q, U') else W fu (n + 1) (q + 1) U') else W fu n (q + 1) U')) {R : Int × zS2} (eR : R = (if -1 ≤ k then zsum (W 995 0 0 S) (fun r20 => r20) (fun q20 => (fun (n20 : Int) (p20 : Int) (S20 : zS2) => (if k = -1 then (n20, S20) else (-1, S20))) q20.1 q20.2.1 q20.2.2) else (-1, S))) : (zc_choose M cv k tr).1 = R.1 ∧ zBm (i + 8) (zc_choose M cv k tr).2 R.2 := by
  rw [eR]
  by_cases hk : -1 ≤ k
  · rw [zc_choose_t hC hc hk, if_pos hk]
    rcases zc_pair dT hT hW0 hW 995 0 0 M S zVE.rf zFm.rf (by decide) with ⟨r, N, U, e1, e2, e3, e4⟩ | ⟨n, q, N, U, e1, e2, e3, e4⟩
    · rw [e1, e2]
      exact ⟨rfl, zBm_q hR hC e3 e4⟩
    · rw [e1, e2]
      show (if k = -1 then (n, N) else (-1, N)).1 = (if k = -1 then (n, U) else (-1, U)).1 ∧ zBm (i + 8) (if k = -1 then (n, N) else (-1, N)).2 (if k = -1 then (n, U) else (-1, U)).2
      by_cases e : k = -1
      · rw [if_pos e, if_pos e]; exact ⟨rfl, zBm_q hR hC e3 e4⟩
      · rw [if_neg e, if_neg e]; exact ⟨rfl, zBm_q hR hC e3 e4⟩
  · rw [zc_choose_f hC (fun q => hk q.2), if_neg hk]
    exact ⟨rfl, zBm_q hR hC zVE.rf zFm.rf⟩
end ZMj
