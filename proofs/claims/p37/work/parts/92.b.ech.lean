section ZEb
/-- one line more: taken, or made of the rows -/
theorem ke_add {K : Type} [Lean.Grind.CommRing K] {p : Int} {φ : Int → K} (h : zKp K p φ) (hp : 2 ≤ p) {w lim : Nat} (hw : lim ≤ w) {Kn : Nat → Int} {R : Nat → Nat → Int} (hE : ke_E φ lim Kn R) {c : Nat → Int} (hc : zcan p c) :
    (zsp1 Kn R w lim p c = 0 ∧ zspR Kn R w lim p c = R ∧ zspK Kn R w lim p c = Kn ∧ zcan p (zspan Kn R w lim p c).2 ∧ (∀ k, k < lim → (zspan Kn R w lim p c).2 k = 0) ∧ ∃ α : Nat → K, (∀ q, Kn q = 0 → α q = 0) ∧ ∀ k, k < w → φ (c k) = φ ((zspan Kn R w lim p c).2 k) + ka_s (fun q => α q * φ (R q k)) lim) ∨
    ∃ (q : Nat) (α : Nat → K) (u : K), zsp1 Kn R w lim p c = 1 ∧ q < lim ∧ Kn q = 0 ∧ zspK Kn R w lim p c = zup Kn q 1 ∧ (∀ r, r ≠ q → zspR Kn R w lim p c r = R r) ∧ u ≠ 0 ∧ (∀ q, Kn q = 0 → α q = 0) ∧ (∀ k, k < w → φ (c k) = u * φ (zspR Kn R w lim p c q k) + ka_s (fun q => α q * φ (R q k)) lim) ∧ φ (zspR Kn R w lim p c q q) = 1 ∧ (∀ k, k < q → φ (zspR Kn R w lim p c q k) = 0) ∧ zcan p (zspan Kn R w lim p c).2 ∧ ∀ k, k < w → φ ((zspan Kn R w lim p c).2 k) = u * φ (zspR Kn R w lim p c q k) := by
  have e0 : zspan Kn R w lim p c = zsp Kn R w p lim ((0 : Nat) : Int) c := by
    unfold zspan
    rw [show ((lim : Int) - 0).toNat = lim by omega]
    rfl
  obtain ⟨r1, ⟨α, r2, r3⟩, r4⟩ := ke_red h (by omega) hw hE lim 0 c (by omega) hc (fun k hk => absurd hk (Nat.not_lt_zero _))
  rw [← e0] at r1 r3 r4
  obtain ⟨o, c', eo⟩ : ∃ o c', zspan Kn R w lim p c = (o, c') := ⟨_, _, rfl⟩
  rw [eo] at r1 r3 r4
  rcases r4 with ⟨ro, rz⟩ | ⟨q, ro, q1, q2, q3, q4⟩
  · have ro' : o = none := ro
    rw [ro'] at eo
    refine Or.inl ⟨?_, ?_, ?_, by rw [eo]; exact r1, by rw [eo]; exact rz, α, r2, by rw [eo]; exact r3⟩
    · unfold zsp1; rw [eo]
    · unfold zspR; rw [eo]
    · unfold zspK; rw [eo]
  · have ro' : o = some (q : Int) := ro
    rw [ro'] at eo
    have er : zspR Kn R w lim p c = zset R q (zkeep p w (R q) c' (zinv (c' q) p)) := by
      unfold zspR; rw [eo]
      rfl
    have cq : φ (c' q) ≠ 0 := fun z => q3 ((h.z0 (r1 q)).1 z)
    have iv := zK_inv h hp cq
    have rw1 : ∀ k, k < w → φ (zspR Kn R w lim p c q k) = φ (c' k) * φ (zinv (c' q) p) := fun k hk => by
      rw [er, zset_self]
      unfold zkeep
      rw [if_pos (by omega), h.em, h.ml]
    have rc : ∀ k, k < w → φ (c' k) = φ (c' q) * φ (zspR Kn R w lim p c q k) := fun k hk => by
      rw [rw1 k hk, show φ (c' q) * (φ (c' k) * φ (zinv (c' q) p)) = φ (c' k) * (φ (c' q) * φ (zinv (c' q) p)) by grind, iv]; grind
    refine Or.inr ⟨q, α, φ (c' q), ?_, q1, q2, ?_, fun r hr => by rw [er, zset_ne _ _ hr], cq, r2, fun k hk => ?_, ?_, fun k hk => ?_, by rw [eo]; exact r1, fun k hk => by rw [eo]; exact rc k hk⟩
    · unfold zsp1; rw [eo]
    · unfold zspK; rw [eo]
      rfl
    · rw [r3 k hk]
      show φ (c' k) + _ = _
      rw [rc k hk]
    · rw [rw1 q (by omega)]; exact iv
    · rw [rw1 k (by omega), show c' k = 0 from q4 k hk, h.z, ka_zm]
/-- what holds of the rows afterwards -/
theorem ke_next {K : Type} [Lean.Grind.CommRing K] {p : Int} {φ : Int → K} (h : zKp K p φ) (hp : 2 ≤ p) {w lim : Nat} (hw : lim ≤ w) {Kn : Nat → Int} {R : Nat → Nat → Int} (hE : ke_E φ lim Kn R) {c : Nat → Int} (hc : zcan p c) :
    ke_E φ lim (zspK Kn R w lim p c) (zspR Kn R w lim p c) ∧ (∀ W v, W ≤ w → ke_S φ W lim Kn R v → ke_S φ W lim (zspK Kn R w lim p c) (zspR Kn R w lim p c) v) ∧ ke_S φ lim lim (zspK Kn R w lim p c) (zspR Kn R w lim p c) (fun k => φ (c k)) ∧ (zsp1 Kn R w lim p c = 0 ↔ ke_S φ lim lim Kn R (fun k => φ (c k))) ∧ (zsp1 Kn R w lim p c = 0 ∨ zsp1 Kn R w lim p c = 1) ∧ (zsp1 Kn R w lim p c = 0 → zspR Kn R w lim p c = R ∧ zspK Kn R w lim p c = Kn) ∧ ∀ W v, W ≤ w → ke_S φ W lim (zspK Kn R w lim p c) (zspR Kn R w lim p c) v → ∃ a : K, ke_S φ W lim Kn R (fun k => v k + a * φ (c k)) := by
  rcases ke_add h hp hw hE hc with ⟨f1, f2, f3, f4, f5, α, f6, f7⟩ | ⟨q, α, u, g1, g2, g3, g4, g5, g6, g7, g8, g9, g10, _, _⟩
  · have hs : ke_S φ lim lim Kn R (fun k => φ (c k)) := ⟨α, f6, fun k hk => by
      show φ (c k) = _
      rw [f7 k (by omega), f5 k hk, h.z, ka_za]⟩
    rw [f2, f3]
    exact ⟨hE, fun W v _ hv => hv, hs, ⟨fun _ => hs, fun _ => f1⟩, Or.inl f1, fun _ => ⟨rfl, rfl⟩, fun W v _ hv => ⟨0, ke_S_congr hv (fun k _ => by
      show v k + 0 * φ (c k) = v k
      rw [ka_zm, ka_az])⟩⟩
  · obtain ⟨R', hR'⟩ : ∃ R', R' = zspR Kn R w lim p c := ⟨_, rfl⟩
    rw [← hR'] at g5 g8 g9 g10 ⊢
    rw [g4]
    have kq : zup Kn q 1 q = 1 := zup_self _ _ _
    have ko : ∀ r, r ≠ q → zup Kn q 1 r = Kn r := fun r hr => zup_ne _ _ hr
    have mono : ∀ (W : Nat) (v : Nat → K), ke_S φ W lim Kn R v → ke_S φ W lim (zup Kn q 1) R' v := fun W v ⟨a, a0, a1⟩ => ⟨a, fun r hr => by
      by_cases e : r = q
      · rw [e]; exact a0 q g3
      · exact a0 r (by rw [← ko r e]; exact hr), fun k hk => by
      rw [a1 k hk]
      refine ka_s_congr _ (fun r _ => ?_)
      by_cases e : r = q
      · rw [e, a0 q g3, ka_zm, ka_zm]
      · rw [g5 r e]⟩
    have E' : ke_E φ lim (zup Kn q 1) R' := fun r hr hk => by
      by_cases e : r = q
      · rw [e]; exact ⟨g9, g10⟩
      · rw [ko r e] at hk
        rw [g5 r e]; exact hE r hr hk
    have own : ∀ W : Nat, W ≤ w → ke_S φ W lim (zup Kn q 1) R' (fun k => φ (R' q k)) := fun W hW => ⟨fun r => if r = q then 1 else 0, fun r hr => if_neg (fun z => by rw [z, kq] at hr; exact absurd hr (by decide)), fun k hk => by
      show φ (R' q k) = ka_s (fun r => (if r = q then 1 else 0) * φ (R' r k)) lim
      rw [ka_s_one (k := q) lim g2 (fun r _ hne => by rw [if_neg hne, ka_zm]), if_pos rfl, ka_om]⟩
    have sc : ∀ W : Nat, W ≤ w → ke_S φ W lim (zup Kn q 1) R' (fun k => φ (c k)) := fun W hW => by
      have s1 := ke_S_add (mono W (fun k => ka_s (fun q => α q * φ (R q k)) lim) ⟨α, g7, fun k _ => rfl⟩) (own W hW) u
      exact ke_S_congr s1 (fun k hk => by
        show φ (c k) = ka_s (fun q => α q * φ (R q k)) lim + u * φ (R' q k)
        rw [g8 k (by omega)]; exact Lean.Grind.Semiring.add_comm _ _)
    have no : ¬ ke_S φ lim lim Kn R (fun k => φ (c k)) := fun hs => by
      obtain ⟨v, hv⟩ := h.F.2 u g6
      have s2 : ke_S φ lim lim Kn R (fun k => φ (R' q k)) := by
        have s3 := ke_S_add ke_S_zero (ke_S_add hs (⟨α, g7, fun k _ => rfl⟩ : ke_S φ lim lim Kn R (fun k => ka_s (fun q => α q * φ (R q k)) lim)) (-1)) v
        exact ke_S_congr s3 (fun k hk => by
          show φ (R' q k) = 0 + v * (φ (c k) + (-1) * ka_s (fun q => α q * φ (R q k)) lim)
          rw [g8 k (by omega), show 0 + v * (u * φ (R' q k) + ka_s (fun q => α q * φ (R q k)) lim + -1 * ka_s (fun q => α q * φ (R q k)) lim) = (u * v) * φ (R' q k) by grind, hv, ka_om])
      exact ke_lead hE s2 g2 (fun k hk => g10 k hk) (by rw [g9]; exact h.F.1) g3
    refine ⟨E', fun W v _ hv => mono W v hv, sc lim hw, ⟨fun z => absurd (z.symm.trans g1) (by decide), fun z => absurd z no⟩, Or.inr g1, fun z => absurd (z.symm.trans g1) (by decide), fun W v hW hv => ?_⟩
    obtain ⟨a, a0, a1⟩ := hv
    obtain ⟨x, hx⟩ := h.F.2 u g6
    refine ⟨-(a q * x), ⟨fun r => (if r = q then 0 else a r) + (-(a q * x)) * α r, fun r hr => ?_, fun k hk => ?_⟩⟩
    · show (if r = q then 0 else a r) + (-(a q * x)) * α r = 0
      rw [g7 r hr, ka_mz, ka_az]
      by_cases e : r = q
      · rw [if_pos e]
      · rw [if_neg e]; exact a0 r (by rw [ko r e]; exact hr)
    · show v k + (-(a q * x)) * φ (c k) = _
      rw [a1 k hk, g8 k (by omega)]
      have e1 : ka_s (fun r => ((if r = q then 0 else a r) + (-(a q * x)) * α r) * φ (R r k)) lim = ka_s (fun r => (if r = q then 0 else a r) * φ (R r k)) lim + (-(a q * x)) * ka_s (fun r => α r * φ (R r k)) lim := by
        rw [← ka_s_mul, ← ka_s_add]
        exact ka_s_congr _ (fun r _ => (ka_rg5 _ _ _ _).symm)
      have e2 : ka_s (fun r => a r * φ (R' r k)) lim = ka_s (fun r => (if r = q then 0 else a r) * φ (R r k)) lim + a q * φ (R' q k) := by
        have e3 : ka_s (fun r => if r = q then a q * φ (R' q k) else 0) lim = a q * φ (R' q k) := by
          rw [ka_s_one (k := q) lim g2 (fun r _ hne => if_neg hne), if_pos rfl]
        rw [← e3, ← ka_s_add]
        refine ka_s_congr _ (fun r _ => ?_)
        by_cases e : r = q
        · rw [if_pos e, if_pos e, e, ka_zm, ka_za]
        · rw [if_neg e, if_neg e, g5 r e, ka_az]
      rw [e1, e2]
      have e4 : a q * x * u = a q := by rw [show a q * x * u = a q * (u * x) by grind, hx]; grind
      have e5 : -(a q * x) * (u * φ (R' q k)) = -(a q * φ (R' q k)) := by rw [show -(a q * x) * (u * φ (R' q k)) = -((a q * x * u) * φ (R' q k)) by grind, e4]
      grind
end ZEb
