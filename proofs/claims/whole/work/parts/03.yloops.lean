section
variable {P W L T SM SW O C IX PX MX IY PY MY : Nat → Int32}

theorem om_yb {post : Int32 → Prop} {p : Nat} (hp : p < 3) (h : post 0) : wpY_bad post (P, W, L, T, SM, SW, C, IY, PY, MY) (nI p) :=
  br_f (nI_pos (by omega)) (br_t (nI_le (b := 2) (by omega) (by decide)) h)
theorem om_ybB {post : Int32 → Prop} {x : Int32} (hx : x < 0 ∨ nI 3 ≤ x) (h : post 1) : wpY_bad post (P, W, L, T, SM, SW, C, IY, PY, MY) x :=
  br_c (fun _ => h) (fun h0 => br_f (om_big (n := 2) (by decide) (hx.resolve_left h0)).2.1 h)
theorem om_yg {post : Int32 → Prop} {p : Nat} (hp : p < 8) (h : post 0) : wpY_badPage post (P, W, L, T, SM, SW, C, IY, PY, MY) (nI p) :=
  br_f (nI_pos (by omega)) (br_t (nI_le (b := 7) (by omega) (by decide)) h)
theorem om_ygB {post : Int32 → Prop} {x : Int32} (hx : x < 0 ∨ nI 8 ≤ x) (h : post 1) : wpY_badPage post (P, W, L, T, SM, SW, C, IY, PY, MY) x :=
  br_c (fun _ => h) (fun h0 => br_f (om_big (n := 7) (by decide) (hx.resolve_left h0)).2.1 h)
theorem om_ycL {post : Int32 → Prop} {p : Nat} (hp : p < 3) : ∀ (d i c : Nat), i + d = 8 → post (nI (c + om_cnt P d (p * 8 + i))) → wY_count_4 post (nI p) P W L T SM SW C IY PY MY (d + 1) (nI c) (nI i) := by
  intro d
  induction d with
  | zero =>
    intro i c e h
    obtain rfl : i = 8 := by omega
    exact br_t (nI_le (a := 8) (b := 8) (by omega) (by omega)) h
  | succ d ih =>
    intro i c e h
    refine br_f (nI_ge (b := 8) (by omega) (by omega)) ⟨pk_in (p * 8 + i) 24 (by omega) (om_i8 p i), ?_⟩
    by_cases z : P (p * 8 + i) = 0
    · refine br_t (om_at (om_i8 p i) (by omega) z) (nm_r (nI_1 i) (ih (i + 1) c (by omega) ?_))
      rw [om_cz z] at h
      exact h
    · refine br_f (om_nt (om_i8 p i) (by omega) z) (nm_r (nI_1 c) (nm_r (nI_1 i) (ih (i + 1) (c + 1) (by omega) ?_)))
      rw [om_cs z] at h
      rw [Nat.add_assoc c 1]
      exact h
theorem om_yc {post : Int32 → Prop} {p : Nat} (hp : p < 3) (h : post (nI (om_cnt P 8 (p * 8)))) : wpY_count post (P, W, L, T, SM, SW, C, IY, PY, MY) (nI p) :=
  ⟨9, om_ycL hp 8 0 0 rfl (by rw [Nat.zero_add]; exact h)⟩
theorem om_ymL {post : Int32 → SY → Prop} {p q : Nat} (hp : p < 3) (hq : q < 8) : ∀ (d i : Nat) (W : Nat → Int32), i + d = 4 → post (nI (om_cnt P 8 (p * 8))) (P, om_it (fun i a => upd a (p * 32 + q * 4 + i) 0) d i W, L, T, SM, SW, C, IY, PY, MY) → wY_map_52 post (nI p) (nI q) (d + 1) (nI i) P W L T SM SW C IY PY MY := by
  intro d
  induction d with
  | zero =>
    intro i W e h
    obtain rfl : i = 4 := by omega
    exact br_t (nI_le (a := 4) (b := 4) (by omega) (by omega)) (om_yc hp h)
  | succ d ih =>
    intro i W e h
    exact br_f (nI_ge (b := 4) (by omega) (by omega)) ⟨pk_in (p * 32 + q * 4 + i) 96 (by omega) (om_iw p q i), nm_r (om_u (om_iw p q i) (by omega) rfl) (nm_r (nI_1 i) (ih (i + 1) _ (by omega) h))⟩
theorem om_ycpL {post : Int32 → SY → Prop} {p f q : Nat} (hp : p < 3) (hf : f < 8) (hq : q < 8) : ∀ (d i : Nat) (W : Nat → Int32), i + d = 4 → post (nI (om_cnt P 8 (p * 8))) (P, om_it (fun i a => upd a (p * 32 + q * 4 + i) (a (p * 32 + f * 4 + i))) d i W, L, T, SM, SW, C, IY, PY, MY) → wY_copy_61 post (nI p) (nI f) (nI q) (d + 1) (nI i) P W L T SM SW C IY PY MY := by
  intro d
  induction d with
  | zero =>
    intro i W e h
    obtain rfl : i = 4 := by omega
    exact br_t (nI_le (a := 4) (b := 4) (by omega) (by omega)) (om_yc hp h)
  | succ d ih =>
    intro i W e h
    exact br_f (nI_ge (b := 4) (by omega) (by omega)) ⟨pk_in (p * 32 + f * 4 + i) 96 (by omega) (om_iw p f i), pk_in (p * 32 + q * 4 + i) 96 (by omega) (om_iw p q i), nm_r (om_u (om_iw p q i) (by omega) (om_at (om_iw p f i) (by omega) rfl)) (nm_r (nI_1 i) (ih (i + 1) _ (by omega) h))⟩
theorem om_ys2L {post : Int32 → SY → Prop} {p r c f q m : Nat} (hp : p < 3) (hr : r < 3) (hf : f + q ≤ 8) (hq : q ≤ 3) (hm : m < 9) : ∀ (d i : Nat) (MY : Nat → Int32), i + d = q * 4 → post (nI (c + 1)) (P, W, L, T, SM, SW, upd C r (nI (c + 1)), IY, PY, om_it (fun i a => upd a (m * 12 + i) (W (p * 32 + f * 4 + i))) d i MY) → wY_send_128 post (nI p) (nI r) (nI c) (nI f) (nI q) (nI m) (d + 1) (nI i) P W L T SM SW C IY PY MY := by
  intro d
  induction d with
  | zero =>
    intro i MY e h
    obtain rfl : i = q * 4 := by omega
    refine br_t (om_leE (om_m4 q) rfl (by omega) (by omega)) ⟨vp_in_nI hr (by omega), nm_r (om_u rfl (by omega) (nI_1 c)) ?_⟩
    rw [nI_1]
    exact h
  | succ d ih =>
    intro i MY e h
    exact br_f (om_gtE (om_m4 q) rfl (by omega) (by omega)) ⟨pk_in (p * 32 + f * 4 + i) 96 (by omega) (om_iw p f i), pk_in (m * 12 + i) 108 (by omega) (om_i12 m i), nm_r (om_u (om_i12 m i) (by omega) (om_at (om_iw p f i) (by omega) rfl)) (nm_r (nI_1 i) (ih (i + 1) _ (by omega) h))⟩
theorem om_ys1L {post : Int32 → SY → Prop} {p r c f q : Nat} {w : Int32} (hp : p < 3) (hf : f + q ≤ 8) : ∀ (d i : Nat), i + d = q → (om_cnt P d (p * 8 + f + i) = d → ∀ n, wY_send_66 post (nI p) (nI r) w (nI c) (nI f) (nI q) P W L T SM SW C IY PY MY (n + 1) (nI q)) → (om_cnt P d (p * 8 + f + i) ≠ d → post (-4) (P, W, L, T, SM, SW, C, IY, PY, MY)) → wY_send_66 post (nI p) (nI r) w (nI c) (nI f) (nI q) P W L T SM SW C IY PY MY (d + 1) (nI i) := by
  intro d
  induction d with
  | zero =>
    intro i e h1 h2
    obtain rfl : i = q := by omega
    exact h1 rfl 0
  | succ d ih =>
    intro i e h1 h2
    refine br_f (nI_ge (by omega) (by omega)) ⟨pk_in (p * 8 + f + i) 24 (by omega) (om_ip p f i), ?_⟩
    have hl := om_cle P d (p * 8 + f + i + 1)
    by_cases z : P (p * 8 + f + i) = 0
    · rw [om_cz z] at h1 h2
      exact br_t (om_at (om_ip p f i) (by omega) z) (h2 (by omega))
    · rw [om_cs z] at h1 h2
      exact br_f (om_nt (om_ip p f i) (by omega) z) (nm_r (nI_1 i) (ih (i + 1) (by omega) (fun k => h1 (by rw [show p * 8 + f + i + 1 = p * 8 + f + (i + 1) from rfl, k]; omega)) (fun k => h2 (fun k' => k (by rw [show p * 8 + f + i + 1 = p * 8 + f + (i + 1) from rfl] at k'; omega)))))
theorem om_yfL {post : SY → Prop} {J : Int32 → (Nat → Int32) → (Nat → Int32) → (Nat → Int32) → (Nat → Int32) → (Nat → Int32) → (Nat → Int32) → (Nat → Int32) → (Nat → Int32) → (Nat → Int32) → (Nat → Int32) → Prop} {x : Int32} {m : Nat} (hm : m < 8) : ∀ (d i : Nat) (MY : Nat → Int32), i + d = 12 → J (nI (m + 1)) P W L T SM SW C IY PY (om_it (fun i a => upd a (m * 12 + i) (a (m * 12 + 12 + i))) d i MY) → wY_forward_43 post J x (nI m) (d + 1) (nI i) P W L T SM SW C IY PY MY := by
  intro d
  induction d with
  | zero =>
    intro i MY e h
    obtain rfl : i = 12 := by omega
    exact br_t (nI_le (a := 12) (b := 12) (by omega) (by omega)) (nm_r (nI_1 m) h)
  | succ d ih =>
    intro i MY e h
    exact br_f (nI_ge (b := 12) (by omega) (by omega)) ⟨pk_in (m * 12 + 12 + i) 108 (by omega) (om_i12b m i), pk_in (m * 12 + i) 108 (by omega) (om_i12 m i), nm_r (om_u (om_i12 m i) (by omega) (om_at (om_i12b m i) (by omega) rfl)) (nm_r (nI_1 i) (ih (i + 1) _ (by omega) h))⟩
/-- the cell m takes the cell behind it -/
def om_sh (a : Nat → Int32) (m : Nat) : Nat → Int32 := upd a m (a (m + 1))
/-- the twelve words of slot m take those of the slot behind it -/
def om_sw (a : Nat → Int32) (m : Nat) : Nat → Int32 := om_it (fun i a => upd a (m * 12 + i) (a (m * 12 + 12 + i))) 12 0 a
theorem om_yf1 {post : SY → Prop} {p m n : Nat} (hp : p < 3) (hm : m < p * 3 + 2) (h : wY_forward_4 post (nI p) n (nI (m + 1)) P W L T SM SW C (om_sh IY m) (om_sh PY m) (om_sw MY m)) : wY_forward_4 post (nI p) (n + 1) (nI m) P W L T SM SW C IY PY MY :=
  br_f (om_gtE (om_e3 p) rfl (by omega) (by omega)) ⟨pk_in (m + 1) 9 (by omega) (nI_1 m), vp_in_nI (by omega) (by omega), nm_r (om_u rfl (by omega) (om_at (nI_1 m) (by omega) rfl)) ⟨pk_in (m + 1) 9 (by omega) (nI_1 m), vp_in_nI (by omega) (by omega), nm_r (om_u rfl (by omega) (om_at (nI_1 m) (by omega) rfl)) ⟨13, om_yfL (by omega) 12 0 MY rfl h⟩⟩⟩
theorem om_yf0 {post : SY → Prop} {p n c : Nat} (hp : p < 3) (hc : C p = nI (c + 1)) (h : post (P, W, L, T, SM, SW, upd C p (nI c), IY, PY, MY)) : wY_forward_4 post (nI p) (n + 1) (nI (p * 3 + 2)) P W L T SM SW C IY PY MY := by
  refine br_t (om_leE (om_e3 p) rfl (by omega) (by omega)) ⟨vp_in_nI (by omega) (by omega), vp_in_nI (by omega) (by omega), nm_r (e' := upd C p (nI c)) ?_ h⟩
  rw [nI_clamp (by omega), hc, nI_pred]
theorem om_yf {post : SY → Prop} {p c : Nat} (hp : p < 3) (hc : C p = nI (c + 1)) (h : post (P, W, L, T, SM, SW, upd C p (nI c), om_sh (om_sh IY (p * 3)) (p * 3 + 1), om_sh (om_sh PY (p * 3)) (p * 3 + 1), om_sw (om_sw MY (p * 3)) (p * 3 + 1))) : wpY_forward post (P, W, L, T, SM, SW, C, IY, PY, MY) (nI p) := by
  unfold wpY_forward
  exact nm_r (om_m3 p) ⟨3, om_yf1 hp (by omega) (om_yf1 hp (by omega) (om_yf0 hp hc h))⟩
theorem om_yr3L {post : Int32 → SY → Prop} {p r c f q m : Nat} (hp : p < 3) (hr : r < 3) (hf : f + q ≤ 8) (hq : q ≤ 3) (hm : m < 9) (hc : C r = nI (c + 1)) : ∀ (d i : Nat) (W : Nat → Int32), i + d = q * 4 → post (nI q) (P, om_it (fun i a => upd a (p * 32 + f * 4 + i) (MY (m * 12 + i))) d i W, L, T, SM, SW, upd C r (nI c), om_sh (om_sh IY (r * 3)) (r * 3 + 1), om_sh (om_sh PY (r * 3)) (r * 3 + 1), om_sw (om_sw MY (r * 3)) (r * 3 + 1)) → wY_receive_147 post (nI p) (nI r) (nI f) (nI m) (nI q) (d + 1) (nI i) P W L T SM SW C IY PY MY := by
  intro d
  induction d with
  | zero =>
    intro i W e h
    obtain rfl : i = q * 4 := by omega
    exact br_t (om_leE (om_m4 q) rfl (by omega) (by omega)) (om_yf hr hc h)
  | succ d ih =>
    intro i W e h
    exact br_f (om_gtE (om_m4 q) rfl (by omega) (by omega)) ⟨pk_in (m * 12 + i) 108 (by omega) (om_i12 m i), pk_in (p * 32 + f * 4 + i) 96 (by omega) (om_iw p f i), nm_r (om_u (om_iw p f i) (by omega) (om_at (om_i12 m i) (by omega) rfl)) (nm_r (nI_1 i) (ih (i + 1) _ (by omega) h))⟩
theorem om_yr2L {post : Int32 → SY → Prop} {p r c f q m : Nat} (hp : p < 3) (hr : r < 3) (hf : f + q ≤ 8) (hq : q ≤ 3) (hm : m < 9) (hc : C r = nI (c + 1)) : ∀ (d i : Nat) (P : Nat → Int32), i + d = q → post (nI q) (om_it (fun i a => upd a (p * 8 + f + i) (vp_nar .boolean 1)) d i P, om_it (fun i a => upd a (p * 32 + f * 4 + i) (MY (m * 12 + i))) (q * 4) 0 W, L, T, SM, SW, upd C r (nI c), om_sh (om_sh IY (r * 3)) (r * 3 + 1), om_sh (om_sh PY (r * 3)) (r * 3 + 1), om_sw (om_sw MY (r * 3)) (r * 3 + 1)) → wY_receive_116 post (nI p) (nI r) (nI f) (nI m) (nI q) (d + 1) (nI i) P W L T SM SW C IY PY MY := by
  intro d
  induction d with
  | zero =>
    intro i P e h
    obtain rfl : i = q := by omega
    exact br_t (nI_le (by omega) (by omega)) ⟨i * 4 + 1, om_yr3L hp hr hf hq hm hc (i * 4) 0 W (by omega) h⟩
  | succ d ih =>
    intro i P e h
    exact br_f (nI_ge (by omega) (by omega)) ⟨pk_in (p * 8 + f + i) 24 (by omega) (om_ip p f i), nm_r (om_u (om_ip p f i) (by omega) rfl) (nm_r (nI_1 i) (ih (i + 1) _ (by omega) h))⟩
theorem om_yr1L {post : Int32 → SY → Prop} {p f q : Nat} {x m : Int32} (hp : p < 3) (hf : f + q ≤ 8) : ∀ (d i : Nat), i + d = q → (om_cnt P d (p * 8 + f + i) = 0 → ∀ n, wY_receive_67 post (nI p) x (nI f) m (nI q) P W L T SM SW C IY PY MY (n + 1) (nI q)) → (om_cnt P d (p * 8 + f + i) ≠ 0 → post (-3) (P, W, L, T, SM, SW, C, IY, PY, MY)) → wY_receive_67 post (nI p) x (nI f) m (nI q) P W L T SM SW C IY PY MY (d + 1) (nI i) := by
  intro d
  induction d with
  | zero =>
    intro i e h1 h2
    obtain rfl : i = q := by omega
    exact h1 rfl 0
  | succ d ih =>
    intro i e h1 h2
    refine br_f (nI_ge (by omega) (by omega)) ⟨pk_in (p * 8 + f + i) 24 (by omega) (om_ip p f i), ?_⟩
    by_cases z : P (p * 8 + f + i) = 0
    · rw [om_cz z] at h1 h2
      exact br_t (om_at (om_ip p f i) (by omega) z) (nm_r (nI_1 i) (ih (i + 1) (by omega) h1 h2))
    · rw [om_cs z] at h2
      exact br_f (om_nt (om_ip p f i) (by omega) z) (h2 (by omega))

theorem om_ysnapshot2 {post : Int32 → SY → Prop} {p : Nat} (hp : p < 3) : ∀ (d i : Nat) (SW : Nat → Int32), i + d = 32 → post (nI (om_cnt P 8 (p * 8))) (P, W, L, T, SM, om_it (fun i a => upd a (p * 32 + i) (W (p * 32 + i))) d i SW, C, IY, PY, MY) → wY_snapshot_56 post (nI p) (d + 1) (nI (p * 32 + i)) P W L T SM SW C IY PY MY := by
  intro d
  induction d with
  | zero =>
    intro i SW e h
    obtain rfl : i = 32 := by omega
    exact br_t (om_leE (om_e32 p) rfl (by omega) (by omega)) (om_yc hp h)
  | succ d ih =>
    intro i SW e h
    exact br_f (om_gtE (om_e32 p) rfl (by omega) (by omega)) ⟨vp_in_nI (by omega) (by omega), vp_in_nI (by omega) (by omega), nm_r (om_u rfl (by omega) (om_at rfl (by omega) rfl)) (nm_r (nI_1 (p * 32 + i)) (ih (i + 1) _ (by omega) h))⟩
theorem om_ysnapshot1 {post : Int32 → SY → Prop} {p : Nat} (hp : p < 3) : ∀ (d i : Nat) (SM : Nat → Int32), i + d = 8 → post (nI (om_cnt P 8 (p * 8))) (P, W, L, T, om_it (fun i a => upd a (p * 8 + i) (vp_nar .boolean (P (p * 8 + i)))) d i SM, om_it (fun i a => upd a (p * 32 + i) (W (p * 32 + i))) 32 0 SW, C, IY, PY, MY) → wY_snapshot_22 post (nI p) (d + 1) (nI (p * 8 + i)) P W L T SM SW C IY PY MY := by
  intro d
  induction d with
  | zero =>
    intro i SM e h
    obtain rfl : i = 8 := by omega
    exact br_t (om_leE (om_e8 p) rfl (by omega) (by omega)) (nm_r (om_m32 p) ⟨33, om_ysnapshot2 hp 32 0 SW rfl h⟩)
  | succ d ih =>
    intro i SM e h
    exact br_f (om_gtE (om_e8 p) rfl (by omega) (by omega)) ⟨vp_in_nI (by omega) (by omega), vp_in_nI (by omega) (by omega), nm_r (om_u rfl (by omega) (congrArg (vp_nar .boolean) (om_at rfl (by omega) rfl))) (nm_r (nI_1 (p * 8 + i)) (ih (i + 1) _ (by omega) h))⟩

theorem om_yrollBack2 {post : Int32 → SY → Prop} {p : Nat} (hp : p < 3) : ∀ (d i : Nat) (W : Nat → Int32), i + d = 32 → post (nI (om_cnt P 8 (p * 8))) (P, om_it (fun i a => upd a (p * 32 + i) (SW (p * 32 + i))) d i W, L, T, SM, SW, C, IY, PY, MY) → wY_rollBack_61 post (nI p) (d + 1) (nI (p * 32 + i)) P W L T SM SW C IY PY MY := by
  intro d
  induction d with
  | zero =>
    intro i W e h
    obtain rfl : i = 32 := by omega
    exact br_t (om_leE (om_e32 p) rfl (by omega) (by omega)) (om_yc hp h)
  | succ d ih =>
    intro i W e h
    exact br_f (om_gtE (om_e32 p) rfl (by omega) (by omega)) ⟨vp_in_nI (by omega) (by omega), vp_in_nI (by omega) (by omega), nm_r (om_u rfl (by omega) (om_at rfl (by omega) rfl)) (nm_r (nI_1 (p * 32 + i)) (ih (i + 1) _ (by omega) h))⟩
theorem om_yrollBack1 {post : Int32 → SY → Prop} {p : Nat} (hp : p < 3) : ∀ (d i : Nat) (P : Nat → Int32), i + d = 8 → post (nI (om_cnt (om_it (fun i a => upd a (p * 8 + i) (vp_nar .boolean (SM (p * 8 + i)))) d i P) 8 (p * 8))) (om_it (fun i a => upd a (p * 8 + i) (vp_nar .boolean (SM (p * 8 + i)))) d i P, om_it (fun i a => upd a (p * 32 + i) (SW (p * 32 + i))) 32 0 W, L, T, SM, SW, C, IY, PY, MY) → wY_rollBack_27 post (nI p) (d + 1) (nI (p * 8 + i)) P W L T SM SW C IY PY MY := by
  intro d
  induction d with
  | zero =>
    intro i P e h
    obtain rfl : i = 8 := by omega
    exact br_t (om_leE (om_e8 p) rfl (by omega) (by omega)) (nm_r (om_m32 p) ⟨33, om_yrollBack2 hp 32 0 W rfl h⟩)
  | succ d ih =>
    intro i P e h
    exact br_f (om_gtE (om_e8 p) rfl (by omega) (by omega)) ⟨vp_in_nI (by omega) (by omega), vp_in_nI (by omega) (by omega), nm_r (om_u rfl (by omega) (congrArg (vp_nar .boolean) (om_at rfl (by omega) rfl))) (nm_r (nI_1 (p * 8 + i)) (ih (i + 1) _ (by omega) h))⟩

theorem om_yeL {post : Int32 → SY → Prop} {p : Nat} {x : Int32} (hp : p < 3) : ∀ (d i : Nat) (P : Nat → Int32), i + d = 8 → post x (om_it (fun i a => upd a (p * 8 + i) (vp_nar .boolean 0)) d i P, W, upd L p 0, upd T p (vp_nar .boolean 0), SM, SW, C, IY, PY, MY) → wY_exit_21 post (nI p) x (d + 1) (nI (p * 8 + i)) P W L T SM SW C IY PY MY := by
  intro d
  induction d with
  | zero =>
    intro i P e h
    obtain rfl : i = 8 := by omega
    exact br_t (om_leE (om_e8 p) rfl (by omega) (by omega)) ⟨vp_in_nI (by omega) (by omega), nm_r (om_u rfl (by omega) rfl) ⟨vp_in_nI (by omega) (by omega), nm_r (om_u rfl (by omega) rfl) h⟩⟩
  | succ d ih =>
    intro i P e h
    exact br_f (om_gtE (om_e8 p) rfl (by omega) (by omega)) ⟨vp_in_nI (by omega) (by omega), nm_r (om_u rfl (by omega) rfl) (nm_r (nI_1 (p * 8 + i)) (ih (i + 1) _ (by omega) h))⟩
end
