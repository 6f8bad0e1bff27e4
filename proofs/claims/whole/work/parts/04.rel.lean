/-- port p: its first is slot o, c messages wait; the component's ring against the reference's row -/
def om_QP (o c p : Nat) (IX PX MX IY PY MY : Nat → Int32) : Prop :=
  ∀ j, j < c → ∃ q, q ≤ 3 ∧ PX (p * 3 + (o + j) % 3) = nI q ∧ PY (p * 3 + j) = nI q ∧ IX (p * 3 + (o + j) % 3) = IY (p * 3 + j) ∧ ∀ w, w < q * 4 → MX ((p * 3 + (o + j) % 3) * 12 + w) = MY ((p * 3 + j) * 12 + w)
def om_Q (O C IX PX MX IY PY MY : Nat → Int32) : Prop :=
  ∀ p, p < 3 → ∃ o c, o < 3 ∧ c ≤ 3 ∧ O p = nI o ∧ C p = nI c ∧ om_QP o c p IX PX MX IY PY MY
/-- both memories and snapshots are the same; the ports agree by om_Q -/
def i_Rel (k : Nat) (u : SX) (v : SY) : Prop :=
  ∃ P W L T SM SW O C IX PX MX IY PY MY : Nat → Int32, u = (P, W, L, T, SM, SW, O, C, IX, PX, MX) ∧ v = (P, W, L, T, SM, SW, C, IY, PY, MY) ∧ om_Q O C IX PX MX IY PY MY
theorem i_up {k : Nat} {u : SX} {v : SY} (h : i_Rel k u v) : i_Rel (k + 5) u v := h
theorem om_Q0 : om_Q (fun _ => 0) (fun _ => 0) (fun _ => 0) (fun _ => 0) (fun _ => 0) (fun _ => 0) (fun _ => 0) (fun _ => 0) :=
  fun _ _ => ⟨0, 0, by omega, by omega, rfl, rfl, fun j hj => absurd hj (by omega)⟩
theorem i_vc0 : wpX_init (fun u => wpY_init (fun v => i_Rel 0 u v)) :=
  ⟨_, _, _, _, _, _, _, _, _, _, _, _, _, _, rfl, rfl, om_Q0⟩
section
variable {P W L T SM SW O C IX PX MX IY PY MY : Nat → Int32}
theorem om_R {k : Nat} (R : om_Q O C IX PX MX IY PY MY) : i_Rel k (P, W, L, T, SM, SW, O, C, IX, PX, MX) (P, W, L, T, SM, SW, C, IY, PY, MY) :=
  ⟨_, _, _, _, _, _, _, _, _, _, _, _, _, _, rfl, rfl, R⟩
theorem om_R2 {k : Nat} {W' L' : Nat → Int32} (eW : W = W') (eL : L = L') (R : om_Q O C IX PX MX IY PY MY) : i_Rel k (P, W, L, T, SM, SW, O, C, IX, PX, MX) (P, W', L', T, SM, SW, C, IY, PY, MY) := by
  subst eW eL
  exact om_R R
theorem om_QPm {IX' PX' MX' IY' PY' MY' : Nat → Int32} {o c p : Nat} (hc : c ≤ 3) (hIX : ∀ s, p * 3 ≤ s → s < p * 3 + 3 → IX' s = IX s) (hPX : ∀ s, p * 3 ≤ s → s < p * 3 + 3 → PX' s = PX s) (hMX : ∀ s, p * 36 ≤ s → s < p * 36 + 36 → MX' s = MX s) (hIY : ∀ s, p * 3 ≤ s → s < p * 3 + 3 → IY' s = IY s) (hPY : ∀ s, p * 3 ≤ s → s < p * 3 + 3 → PY' s = PY s) (hMY : ∀ s, p * 36 ≤ s → s < p * 36 + 36 → MY' s = MY s) (h : om_QP o c p IX PX MX IY PY MY) : om_QP o c p IX' PX' MX' IY' PY' MY' := by
  intro j hj
  obtain ⟨q, hq, h1, h2, h3, h4⟩ := h j hj
  refine ⟨q, hq, ?_, ?_, ?_, fun w hw => ?_⟩
  · rw [hPX _ (by omega) (by omega)]; exact h1
  · rw [hPY _ (by omega) (by omega)]; exact h2
  · rw [hIX _ (by omega) (by omega), hIY _ (by omega) (by omega)]; exact h3
  · rw [hMX _ (by omega) (by omega), hMY _ (by omega) (by omega)]; exact h4 w hw
theorem om_shp (a : Nat → Int32) (m k : Nat) : om_sh (om_sh a m) (m + 1) k = if m ≤ k ∧ k < m + 2 then a (k + 1) else a k := by
  unfold om_sh
  by_cases h1 : k = m + 1
  · subst h1
    rw [pk_us, pk_un (by omega), if_pos (by omega)]
  · rw [pk_un h1]
    by_cases h2 : k = m
    · subst h2
      rw [pk_us, if_pos (by omega)]
    · rw [pk_un h2, if_neg (by omega)]
theorem om_swq (a : Nat → Int32) (m k : Nat) : om_sw a m k = if m * 12 ≤ k ∧ k < m * 12 + 12 then a (k + 12) else a k := by
  unfold om_sw
  rw [om_its (m * 12) 12 0 a k (by omega)]
  rfl
theorem om_swp (a : Nat → Int32) (m k : Nat) : om_sw (om_sw a m) (m + 1) k = if m * 12 ≤ k ∧ k < m * 12 + 24 then a (k + 12) else a k := by
  rw [om_swq, om_swq, om_swq]
  by_cases h1 : (m + 1) * 12 ≤ k ∧ k < (m + 1) * 12 + 12
  · rw [if_pos h1, if_neg (by omega), if_pos (by omega)]
  · rw [if_neg h1]
    by_cases h2 : m * 12 ≤ k ∧ k < m * 12 + 12
    · rw [if_pos h2, if_pos (by omega)]
    · rw [if_neg h2, if_neg (by omega)]
theorem om_Qsend (g : Nat → Int32) {r o c q : Nat} {w : Int32} (R : om_Q O C IX PX MX IY PY MY) (hr : r < 3) (ho3 : o < 3) (hc3 : c < 3) (hq : q ≤ 3) (ho : O r = nI o) (hJ : om_QP o c r IX PX MX IY PY MY) : om_Q O (upd C r (nI (c + 1))) (upd IX (r * 3 + (o + c) % 3) w) (upd PX (r * 3 + (o + c) % 3) (nI q)) (om_it (fun i a => upd a ((r * 3 + (o + c) % 3) * 12 + i) (g i)) (q * 4) 0 MX) (upd IY (r * 3 + c) w) (upd PY (r * 3 + c) (nI q)) (om_it (fun i a => upd a ((r * 3 + c) * 12 + i) (g i)) (q * 4) 0 MY) := by
  intro p hp
  by_cases e : p = r
  · subst e
    refine ⟨o, c + 1, ho3, by omega, ho, pk_us, fun j hj => ?_⟩
    by_cases e2 : j = c
    · subst e2
      refine ⟨q, hq, pk_us, pk_us, by rw [pk_us, pk_us], fun v hv => ?_⟩
      rw [om_itf g, om_itf g, if_pos (by omega), if_pos (by omega)]
      exact congrArg g (by omega)
    · obtain ⟨q', hq', h1, h2, h3, h4⟩ := hJ j (by omega)
      refine ⟨q', hq', ?_, ?_, ?_, fun v hv => ?_⟩
      · rw [pk_un (by omega)]; exact h1
      · rw [pk_un (by omega)]; exact h2
      · rw [pk_un (by omega), pk_un (by omega)]; exact h3
      · rw [om_itf g, om_itf g, if_neg (by omega), if_neg (by omega)]; exact h4 v hv
  · obtain ⟨o', c', h1, h2, h3, h4, h5⟩ := R p hp
    refine ⟨o', c', h1, h2, h3, by rw [pk_un e]; exact h4, om_QPm h2 ?_ ?_ ?_ ?_ ?_ ?_ h5⟩
    · intro s _ _; exact pk_un (by omega)
    · intro s _ _; exact pk_un (by omega)
    · intro s _ _; rw [om_itf g, if_neg (by omega)]
    · intro s _ _; exact pk_un (by omega)
    · intro s _ _; exact pk_un (by omega)
    · intro s _ _; rw [om_itf g, if_neg (by omega)]
theorem om_Qrecv {r o c : Nat} (R : om_Q O C IX PX MX IY PY MY) (hr : r < 3) (ho3 : o < 3) (hc3 : c + 1 ≤ 3) (hJ : om_QP o (c + 1) r IX PX MX IY PY MY) : om_Q (upd O r (nI ((o + 1) % 3))) (upd C r (nI c)) IX PX MX (om_sh (om_sh IY (r * 3)) (r * 3 + 1)) (om_sh (om_sh PY (r * 3)) (r * 3 + 1)) (om_sw (om_sw MY (r * 3)) (r * 3 + 1)) := by
  intro p hp
  by_cases e : p = r
  · subst e
    refine ⟨(o + 1) % 3, c, by omega, by omega, pk_us, pk_us, fun j hj => ?_⟩
    obtain ⟨q, hq, h1, h2, h3, h4⟩ := hJ (j + 1) (by omega)
    have es : ((o + 1) % 3 + j) % 3 = (o + (j + 1)) % 3 := by omega
    rw [es]
    refine ⟨q, hq, h1, ?_, ?_, fun v hv => ?_⟩
    · rw [om_shp, if_pos (by omega)]; exact h2
    · rw [om_shp, if_pos (by omega)]; exact h3
    · rw [om_swp, if_pos (by omega), h4 v hv]; exact congrArg MY (by omega)
  · obtain ⟨o', c', h1, h2, h3, h4, h5⟩ := R p hp
    refine ⟨o', c', h1, h2, by rw [pk_un e]; exact h3, by rw [pk_un e]; exact h4, om_QPm h2 (fun _ _ _ => rfl) (fun _ _ _ => rfl) (fun _ _ _ => rfl) ?_ ?_ ?_ h5⟩
    · intro s _ _; rw [om_shp, if_neg (by omega)]
    · intro s _ _; rw [om_shp, if_neg (by omega)]
    · intro s _ _; rw [om_swp, if_neg (by omega)]
theorem om_Qdrain {r : Nat} (R : om_Q O C IX PX MX IY PY MY) (hr : r < 3) : om_Q O (upd C r 0) IX PX MX IY PY MY := by
  intro p hp
  obtain ⟨o', c', h1, h2, h3, h4, h5⟩ := R p hp
  by_cases e : p = r
  · subst e
    exact ⟨o', 0, h1, by omega, h3, pk_us.trans nI_0.symm, fun j hj => absurd hj (by omega)⟩
  · exact ⟨o', c', h1, h2, h3, by rw [pk_un e]; exact h4, h5⟩
end
