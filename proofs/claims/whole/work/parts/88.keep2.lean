/-! places behind the readings hold 0 after each change -/
section KN
variable {V : zD}
theorem NV_put {t p day len : Int} (hb : VB V) (h : NV V) (ht : isSk V t) (h3 : V 5 ≤ 3) (hn : 0 ≤ nS V t ∧ nS V t < 8) (hp : 0 ≤ p ∧ p ≤ nS V t) : NV (rput V t p day len) := fun u u0 u1 r r0 r1 => by
  have t0 := ht.1
  have t1 := ht.2
  have t3 : 0 ≤ t ∧ t < 3 := ⟨t0, by omega⟩
  rw [show rput V t p day len 5 = V 5 from rput_o (by omega)] at u1
  by_cases z : u = t
  · subst z
    have en : nS (rput V u p day len) u = nS V u + 1 := rput_n
    rw [en] at r0
    have k := h u u0 u1 (r - 1) (by omega) (by omega)
    rw [rput_d t3 (by omega) r1, rput_l t3 (by omega) r1, if_neg (by omega), if_neg (by omega), if_neg (by omega), if_neg (by omega)]
    exact k
  · have en : nS (rput V t p day len) u = nS V u := rput_o (by omega)
    rw [en] at r0
    have k := h u u0 u1 r r0 r1
    have nb := hb.2.2.2.2.2.2 u u0 u1
    rw [show dS (rput V t p day len) u r = dS V u r from rput_o (by omega), show lS (rput V t p day len) u r = lS V u r from rput_o (by omega)]
    exact k
theorem NV_cut {t p : Int} (hb : VB V) (h : NV V) (ht : isSk V t) (hp : 0 ≤ p ∧ p < nS V t) : NV (rcut V t p) := fun u u0 u1 r r0 r1 => by
  have t0 := ht.1
  have t1 := ht.2
  have h3 := hb.2.2.2.2.2.1
  have t3 : 0 ≤ t ∧ t < 3 := ⟨t0, by omega⟩
  rw [show rcut V t p 5 = V 5 from rcut_o (by omega)] at u1
  have nb := hb.2.2.2.2.2.2 u u0 u1
  by_cases z : u = t
  · subst z
    have en : nS (rcut V u p) u = nS V u - 1 := rcut_n
    rw [en] at r0
    rw [rcut_d t3 (by omega) r1, rcut_l t3 (by omega) r1, if_neg (show ¬ r < p by omega), if_neg (show ¬ r < p by omega)]
    by_cases w : r = 7
    · rw [if_pos w, if_pos w]; exact ⟨rfl, rfl⟩
    · rw [if_neg w, if_neg w]; exact h u u0 u1 (r + 1) (by omega) (by omega)
  · have en : nS (rcut V t p) u = nS V u := rcut_o (by omega)
    rw [en] at r0
    have k := h u u0 u1 r r0 r1
    rw [show dS (rcut V t p) u r = dS V u r from rcut_o (by omega), show lS (rcut V t p) u r = lS V u r from rcut_o (by omega)]
    exact k
theorem NV_out {W : zD} (hb : VB V) (h : NV V) (e : ∀ i, i = 5 ∨ (32 ≤ i ∧ i < 83) → W i = V i) : NV W := fun u u0 u1 r r0 r1 => by
  rw [e 5 (Or.inl rfl)] at u1
  have h3 := hb.2.2.2.2.2.1
  have nb := hb.2.2.2.2.2.2 u u0 u1
  rw [show nS W u = nS V u from e _ (Or.inr (by omega))] at r0
  have k := h u u0 u1 r r0 r1
  rw [show dS W u r = dS V u r from e _ (Or.inr (by omega)), show lS W u r = lS V u r from e _ (Or.inr (by omega))]
  exact k
end KN
