section
variable {P W L T SM SW O C IX PX MX IY PY MY : Nat → Int32}
theorem om_ymap1 {post : Int32 → SY → Prop} {x y : Int32} (h1 : (x < 0 ∨ nI 3 ≤ x)) (h : post (-1) (P, W, L, T, SM, SW, C, IY, PY, MY)) : wpY_map post (P, W, L, T, SM, SW, C, IY, PY, MY) x y := by
  unfold wpY_map
  exact om_ybB h1 (br_f om_10 h)
theorem om_ymap2 {post : Int32 → SY → Prop} {p : Nat} {y : Int32} (hp : p < 3) (h2 : (y < 0 ∨ nI 8 ≤ y)) (h : post (-2) (P, W, L, T, SM, SW, C, IY, PY, MY)) : wpY_map post (P, W, L, T, SM, SW, C, IY, PY, MY) (nI p) y := by
  unfold wpY_map
  exact om_yb hp (br_t rfl (om_ygB h2 (br_f om_10 h)))
theorem om_yunmap1 {post : Int32 → SY → Prop} {x y : Int32} (h1 : (x < 0 ∨ nI 3 ≤ x)) (h : post (-1) (P, W, L, T, SM, SW, C, IY, PY, MY)) : wpY_unmap post (P, W, L, T, SM, SW, C, IY, PY, MY) x y := by
  unfold wpY_unmap
  exact om_ybB h1 (br_f om_10 h)
theorem om_yunmap2 {post : Int32 → SY → Prop} {p : Nat} {y : Int32} (hp : p < 3) (h2 : (y < 0 ∨ nI 8 ≤ y)) (h : post (-2) (P, W, L, T, SM, SW, C, IY, PY, MY)) : wpY_unmap post (P, W, L, T, SM, SW, C, IY, PY, MY) (nI p) y := by
  unfold wpY_unmap
  exact om_yb hp (br_t rfl (om_ygB h2 (br_f om_10 h)))
theorem om_ymap3 {post : Int32 → SY → Prop} {p q : Nat} (hp : p < 3) (hq : q < 8) (z : ¬ P (p * 8 + q) = 0) (h : post (-3) (P, W, L, T, SM, SW, C, IY, PY, MY)) : wpY_map post (P, W, L, T, SM, SW, C, IY, PY, MY) (nI p) (nI q) := by
  unfold wpY_map
  exact om_yb hp (br_t rfl (om_yg hq (br_t rfl ⟨pk_in (p * 8 + q) 24 (by omega) (om_i8 p q), br_f (om_nt (om_i8 p q) (by omega) z) h⟩)))
theorem om_ymap4 {post : Int32 → SY → Prop} {p q : Nat} (hp : p < 3) (hq : q < 8) (z : P (p * 8 + q) = 0) (h : post (nI (om_cnt (upd P (p * 8 + q) (vp_nar .boolean 1)) 8 (p * 8))) (upd P (p * 8 + q) (vp_nar .boolean 1), om_it (fun i a => upd a (p * 32 + q * 4 + i) 0) 4 0 W, L, T, SM, SW, C, IY, PY, MY)) : wpY_map post (P, W, L, T, SM, SW, C, IY, PY, MY) (nI p) (nI q) := by
  unfold wpY_map
  exact om_yb hp (br_t rfl (om_yg hq (br_t rfl ⟨pk_in (p * 8 + q) 24 (by omega) (om_i8 p q), br_t (om_at (om_i8 p q) (by omega) z) ⟨pk_in (p * 8 + q) 24 (by omega) (om_i8 p q), nm_r (om_u (om_i8 p q) (by omega) rfl) ⟨5, om_ymL hp hq 4 0 W rfl h⟩⟩⟩)))
theorem om_yunmap3 {post : Int32 → SY → Prop} {p q : Nat} (hp : p < 3) (hq : q < 8) (z : P (p * 8 + q) = 0) (h : post (-4) (P, W, L, T, SM, SW, C, IY, PY, MY)) : wpY_unmap post (P, W, L, T, SM, SW, C, IY, PY, MY) (nI p) (nI q) := by
  unfold wpY_unmap
  exact om_yb hp (br_t rfl (om_yg hq (br_t rfl ⟨pk_in (p * 8 + q) 24 (by omega) (om_i8 p q), br_t (om_at (om_i8 p q) (by omega) z) h⟩)))
theorem om_yunmap4 {post : Int32 → SY → Prop} {p q : Nat} (hp : p < 3) (hq : q < 8) (z : ¬ P (p * 8 + q) = 0) (h : post (nI (om_cnt (upd P (p * 8 + q) (vp_nar .boolean 0)) 8 (p * 8))) (upd P (p * 8 + q) (vp_nar .boolean 0), W, L, T, SM, SW, C, IY, PY, MY)) : wpY_unmap post (P, W, L, T, SM, SW, C, IY, PY, MY) (nI p) (nI q) := by
  unfold wpY_unmap
  exact om_yb hp (br_t rfl (om_yg hq (br_t rfl ⟨pk_in (p * 8 + q) 24 (by omega) (om_i8 p q), br_f (om_nt (om_i8 p q) (by omega) z) ⟨pk_in (p * 8 + q) 24 (by omega) (om_i8 p q), nm_r (om_u (om_i8 p q) (by omega) rfl) (om_yc hp h)⟩⟩)))
theorem om_i84 {a : Nat} (p : Nat) (ha : a < 32) : nI p * 8 + nI a / 4 = nI (p * 8 + a / 4) := by rw [om_d4 ha, om_i8]
theorem om_ywrite1 {post : Int32 → SY → Prop} {x y w : Int32} (h1 : (x < 0 ∨ nI 3 ≤ x)) (h : post (-1) (P, W, L, T, SM, SW, C, IY, PY, MY)) : wpY_write post (P, W, L, T, SM, SW, C, IY, PY, MY) x y w := by
  unfold wpY_write
  exact om_ybB h1 (br_f om_10 h)
theorem om_ywrite2 {post : Int32 → SY → Prop} {p : Nat} {y w : Int32} (hp : p < 3) (h2 : (y < 0 ∨ nI 32 ≤ y)) (h : post (-2) (P, W, L, T, SM, SW, C, IY, PY, MY)) : wpY_write post (P, W, L, T, SM, SW, C, IY, PY, MY) (nI p) y w := by
  unfold wpY_write
  exact om_yb hp (br_t rfl (br_c (fun _ => h) (fun h0 => br_f (om_big (n := 31) (by decide) (h2.resolve_left h0)).2.1 h)))
theorem om_ywrite3 {post : Int32 → SY → Prop} {p a : Nat} {w : Int32} (hp : p < 3) (ha : a < 32) (z : P (p * 8 + a / 4) = 0) (h : post (-4) (P, W, L, T, SM, SW, C, IY, PY, MY)) : wpY_write post (P, W, L, T, SM, SW, C, IY, PY, MY) (nI p) (nI a) w := by
  unfold wpY_write
  exact om_yb hp (br_t rfl (br_f (nI_pos (by omega)) (br_t (nI_le (b := 31) (by omega) (by decide)) ⟨om_40, pk_in (p * 8 + a / 4) 24 (by omega) (om_i84 p ha), br_t (om_at (om_i84 p ha) (by omega) z) h⟩)))
theorem om_ywrite4 {post : Int32 → SY → Prop} {p a : Nat} {w : Int32} (hp : p < 3) (ha : a < 32) (z : ¬ P (p * 8 + a / 4) = 0) (h : post (nI (a / 4)) (P, upd W (p * 32 + a) w, L, T, SM, SW, C, IY, PY, MY)) : wpY_write post (P, W, L, T, SM, SW, C, IY, PY, MY) (nI p) (nI a) w := by
  unfold wpY_write
  refine om_yb hp (br_t rfl (br_f (nI_pos (by omega)) (br_t (nI_le (b := 31) (by omega) (by decide)) ⟨om_40, pk_in (p * 8 + a / 4) 24 (by omega) (om_i84 p ha), br_f (om_nt (om_i84 p ha) (by omega) z) ⟨pk_in (p * 32 + a) 96 (by omega) (om_i32 p a), nm_r (om_u (om_i32 p a) (by omega) rfl) ⟨om_40, ?_⟩⟩⟩)))
  rw [om_d4 ha]
  exact h
theorem om_ycopy1 {post : Int32 → SY → Prop} {x y w : Int32} (h1 : (x < 0 ∨ nI 3 ≤ x)) (h : post (-1) (P, W, L, T, SM, SW, C, IY, PY, MY)) : wpY_copy post (P, W, L, T, SM, SW, C, IY, PY, MY) x y w := by
  unfold wpY_copy
  exact om_ybB h1 (br_f om_10 h)
theorem om_ycopy2 {post : Int32 → SY → Prop} {p : Nat} {y w : Int32} (hp : p < 3) (h2 : (y < 0 ∨ nI 8 ≤ y)) (h : post (-2) (P, W, L, T, SM, SW, C, IY, PY, MY)) : wpY_copy post (P, W, L, T, SM, SW, C, IY, PY, MY) (nI p) y w := by
  unfold wpY_copy
  exact om_yb hp (br_t rfl (om_ygB h2 (br_f om_10 h)))
theorem om_ycopy3 {post : Int32 → SY → Prop} {p f : Nat} {w : Int32} (hp : p < 3) (hf : f < 8) (h2 : (w < 0 ∨ nI 8 ≤ w)) (h : post (-2) (P, W, L, T, SM, SW, C, IY, PY, MY)) : wpY_copy post (P, W, L, T, SM, SW, C, IY, PY, MY) (nI p) (nI f) w := by
  unfold wpY_copy
  exact om_yb hp (br_t rfl (om_yg hf (br_t rfl (om_ygB h2 (br_f om_10 h)))))
theorem om_ycopy4 {post : Int32 → SY → Prop} {p f q : Nat} (hp : p < 3) (hf : f < 8) (hq : q < 8) (z : P (p * 8 + f) = 0) (h : post (-4) (P, W, L, T, SM, SW, C, IY, PY, MY)) : wpY_copy post (P, W, L, T, SM, SW, C, IY, PY, MY) (nI p) (nI f) (nI q) := by
  unfold wpY_copy
  exact om_yb hp (br_t rfl (om_yg hf (br_t rfl (om_yg hq (br_t rfl ⟨pk_in (p * 8 + f) 24 (by omega) (om_i8 p f), br_t (om_at (om_i8 p f) (by omega) z) h⟩)))))
theorem om_ycopy5 {post : Int32 → SY → Prop} {p f q : Nat} (hp : p < 3) (hf : f < 8) (hq : q < 8) (z : ¬ P (p * 8 + f) = 0) (h : post (nI (om_cnt (upd P (p * 8 + q) (vp_nar .boolean 1)) 8 (p * 8))) (upd P (p * 8 + q) (vp_nar .boolean 1), om_it (fun i a => upd a (p * 32 + q * 4 + i) (a (p * 32 + f * 4 + i))) 4 0 W, L, T, SM, SW, C, IY, PY, MY)) : wpY_copy post (P, W, L, T, SM, SW, C, IY, PY, MY) (nI p) (nI f) (nI q) := by
  unfold wpY_copy
  exact om_yb hp (br_t rfl (om_yg hf (br_t rfl (om_yg hq (br_t rfl ⟨pk_in (p * 8 + f) 24 (by omega) (om_i8 p f), br_f (om_nt (om_i8 p f) (by omega) z) ⟨pk_in (p * 8 + q) 24 (by omega) (om_i8 p q), nm_r (om_u (om_i8 p q) (by omega) rfl) ⟨5, om_ycpL hp hf hq 4 0 W rfl h⟩⟩⟩)))))
theorem om_ysend1 {post : Int32 → SY → Prop} {x y w v : Int32} (h1 : (x < 0 ∨ nI 3 ≤ x)) (h : post (-1) (P, W, L, T, SM, SW, C, IY, PY, MY)) : wpY_send post (P, W, L, T, SM, SW, C, IY, PY, MY) x y w v := by
  unfold wpY_send
  exact om_ybB h1 (br_f om_10 h)
theorem om_ysend2 {post : Int32 → SY → Prop} {p : Nat} {y w v : Int32} (hp : p < 3) (h2 : (y < 0 ∨ nI 3 ≤ y)) (h : post (-1) (P, W, L, T, SM, SW, C, IY, PY, MY)) : wpY_send post (P, W, L, T, SM, SW, C, IY, PY, MY) (nI p) y w v := by
  unfold wpY_send
  exact om_yb hp (br_t rfl (om_ybB h2 (br_f om_10 h)))
theorem om_ysend3 {post : Int32 → SY → Prop} {p r c : Nat} {w v : Int32} (hp : p < 3) (hr : r < 3) (hc : C r = nI c) (hc3 : c = 3) (h : post (-5) (P, W, L, T, SM, SW, C, IY, PY, MY)) : wpY_send post (P, W, L, T, SM, SW, C, IY, PY, MY) (nI p) (nI r) w v := by
  unfold wpY_send
  exact om_yb hp (br_t rfl (om_yb hr (br_t rfl ⟨vp_in_nI (by omega) (by omega), nm_r (om_at rfl (by omega) hc) (br_f (nI_nlt (b := 3) (by omega) (by omega)) h)⟩)))
theorem om_ysend4 {post : Int32 → SY → Prop} {p r c f q : Nat} {w v : Int32} (hp : p < 3) (hr : r < 3) (hc : C r = nI c) (hc3 : c < 3) (hf : v &&& 7 = nI f) (hq : (v >>> ((3 : Int32) &&& 31)) &&& 3 = nI q) (hf8 : f < 8) (hq4 : q < 4) (hg : 8 < f + q) (h : post (-2) (P, W, L, T, SM, SW, C, IY, PY, MY)) : wpY_send post (P, W, L, T, SM, SW, C, IY, PY, MY) (nI p) (nI r) w v := by
  unfold wpY_send
  exact om_yb hp (br_t rfl (om_yb hr (br_t rfl ⟨vp_in_nI (by omega) (by omega), nm_r (om_at rfl (by omega) hc) (br_t (nI_lt (b := 3) hc3 (by decide)) (nm_r hf (nm_r hq (br_f (om_gtE (nI_add f q) om_l8 hg (by omega)) h))))⟩)))
theorem om_ysend5 {post : Int32 → SY → Prop} {p r c f q : Nat} {w v : Int32} (hp : p < 3) (hr : r < 3) (hc : C r = nI c) (hc3 : c < 3) (hf : v &&& 7 = nI f) (hq : (v >>> ((3 : Int32) &&& 31)) &&& 3 = nI q) (hf8 : f < 8) (hq4 : q < 4) (hg : f + q ≤ 8) (hn : om_cnt P q (p * 8 + f) ≠ q) (h : post (-4) (P, W, L, T, SM, SW, C, IY, PY, MY)) : wpY_send post (P, W, L, T, SM, SW, C, IY, PY, MY) (nI p) (nI r) w v := by
  unfold wpY_send
  exact om_yb hp (br_t rfl (om_yb hr (br_t rfl ⟨vp_in_nI (by omega) (by omega), nm_r (om_at rfl (by omega) hc) (br_t (nI_lt (b := 3) hc3 (by decide)) (nm_r hf (nm_r hq (br_t (om_leE (nI_add f q) om_l8 hg (by omega)) ⟨q + 1, om_ys1L hp hg q 0 (by omega) (fun k => absurd k hn) (fun _ => h)⟩))))⟩)))
theorem om_i3 (r c : Nat) : nI r * 3 + nI c = nI (r * 3 + c) := by rw [om_m3, nI_add]
theorem om_ysend6a {post : Int32 → SY → Prop} {p r c f q n : Nat} {w : Int32} (hp : p < 3) (hr : r < 3) (hc3 : c < 3) (hq4 : q < 4) (hg : f + q ≤ 8) (h : post (nI (c + 1)) (P, W, L, T, SM, SW, upd C r (nI (c + 1)), upd IY (r * 3 + c) w, upd PY (r * 3 + c) (nI q), om_it (fun i a => upd a ((r * 3 + c) * 12 + i) (W (p * 32 + f * 4 + i))) (q * 4) 0 MY)) : wY_send_66 post (nI p) (nI r) w (nI c) (nI f) (nI q) P W L T SM SW C IY PY MY (n + 1) (nI q) :=
  br_t (nI_le (by omega) (by omega)) (nm_r (om_i3 r c) ⟨vp_in_nI (by omega) (by omega), nm_r (om_u rfl (by omega) rfl) ⟨vp_in_nI (by omega) (by omega), nm_r (om_u rfl (by omega) rfl) ⟨q * 4 + 1, om_ys2L hp hr hg (by omega) (by omega) (q * 4) 0 MY (by omega) h⟩⟩⟩)
theorem om_ysend6 {post : Int32 → SY → Prop} {p r c f q : Nat} {w v : Int32} (hp : p < 3) (hr : r < 3) (hc : C r = nI c) (hc3 : c < 3) (hf : v &&& 7 = nI f) (hq : (v >>> ((3 : Int32) &&& 31)) &&& 3 = nI q) (hf8 : f < 8) (hq4 : q < 4) (hg : f + q ≤ 8) (hn : om_cnt P q (p * 8 + f) = q) (h : post (nI (c + 1)) (P, W, L, T, SM, SW, upd C r (nI (c + 1)), upd IY (r * 3 + c) w, upd PY (r * 3 + c) (nI q), om_it (fun i a => upd a ((r * 3 + c) * 12 + i) (W (p * 32 + f * 4 + i))) (q * 4) 0 MY)) : wpY_send post (P, W, L, T, SM, SW, C, IY, PY, MY) (nI p) (nI r) w v := by
  unfold wpY_send
  exact om_yb hp (br_t rfl (om_yb hr (br_t rfl ⟨vp_in_nI (by omega) (by omega), nm_r (om_at rfl (by omega) hc) (br_t (nI_lt (b := 3) hc3 (by decide)) (nm_r hf (nm_r hq (br_t (om_leE (nI_add f q) om_l8 hg (by omega)) ⟨q + 1, om_ys1L hp hg q 0 (by omega) (fun _ _ => om_ysend6a hp hr hc3 hq4 hg h) (fun k => absurd hn k)⟩))))⟩)))
theorem om_yreceive1 {post : Int32 → SY → Prop} {x y w : Int32} (h1 : (x < 0 ∨ nI 3 ≤ x)) (h : post (-1) (P, W, L, T, SM, SW, C, IY, PY, MY)) : wpY_receive post (P, W, L, T, SM, SW, C, IY, PY, MY) x y w := by
  unfold wpY_receive
  exact om_ybB h1 (br_f om_10 h)
theorem om_yreceive2 {post : Int32 → SY → Prop} {p : Nat} {y w : Int32} (hp : p < 3) (h2 : (y < 0 ∨ nI 3 ≤ y)) (h : post (-1) (P, W, L, T, SM, SW, C, IY, PY, MY)) : wpY_receive post (P, W, L, T, SM, SW, C, IY, PY, MY) (nI p) y w := by
  unfold wpY_receive
  exact om_yb hp (br_t rfl (om_ybB h2 (br_f om_10 h)))
theorem om_yreceive3 {post : Int32 → SY → Prop} {p r : Nat} {w : Int32} (hp : p < 3) (hr : r < 3) (hc : C r = 0) (h : post (-6) (P, W, L, T, SM, SW, C, IY, PY, MY)) : wpY_receive post (P, W, L, T, SM, SW, C, IY, PY, MY) (nI p) (nI r) w := by
  unfold wpY_receive
  exact om_yb hp (br_t rfl (om_yb hr (br_t rfl ⟨vp_in_nI (by omega) (by omega), br_t (om_at rfl (by omega) hc) h⟩)))
theorem om_yreceive4 {post : Int32 → SY → Prop} {p r c q : Nat} (hp : p < 3) (hr : r < 3) (hc : C r = nI (c + 1)) (hc3 : c + 1 ≤ 3) (hq : q ≤ 3) (hP : PY (r * 3) = nI q) {w : Int32} (h2 : (w < 0 ∨ nI 8 ≤ w)) (h : post (-2) (P, W, L, T, SM, SW, C, IY, PY, MY)) : wpY_receive post (P, W, L, T, SM, SW, C, IY, PY, MY) (nI p) (nI r) w := by
  unfold wpY_receive
  exact om_yb hp (br_t rfl (om_yb hr (br_t rfl ⟨vp_in_nI (by omega) (by omega), br_f (om_ne0 hr hc hc3) (nm_r (om_m3 r) ⟨vp_in_nI (by omega) (by omega), nm_r (om_at rfl (by omega) hP) (om_ygB h2 (br_f om_10 h))⟩)⟩)))
theorem om_yreceive5 {post : Int32 → SY → Prop} {p r c q : Nat} (hp : p < 3) (hr : r < 3) (hc : C r = nI (c + 1)) (hc3 : c + 1 ≤ 3) (hq : q ≤ 3) (hP : PY (r * 3) = nI q) {f : Nat} (hf : f < 8) (hg : 8 < f + q) (h : post (-2) (P, W, L, T, SM, SW, C, IY, PY, MY)) : wpY_receive post (P, W, L, T, SM, SW, C, IY, PY, MY) (nI p) (nI r) (nI f) := by
  unfold wpY_receive
  exact om_yb hp (br_t rfl (om_yb hr (br_t rfl ⟨vp_in_nI (by omega) (by omega), br_f (om_ne0 hr hc hc3) (nm_r (om_m3 r) ⟨vp_in_nI (by omega) (by omega), nm_r (om_at rfl (by omega) hP) (om_yg hf (br_t rfl (br_f (om_gtE (nI_add f q) om_l8 hg (by omega)) h)))⟩)⟩)))
theorem om_yreceive6 {post : Int32 → SY → Prop} {p r c q : Nat} (hp : p < 3) (hr : r < 3) (hc : C r = nI (c + 1)) (hc3 : c + 1 ≤ 3) (hq : q ≤ 3) (hP : PY (r * 3) = nI q) {f : Nat} (hf : f < 8) (hg : f + q ≤ 8) (hn : om_cnt P q (p * 8 + f) ≠ 0) (h : post (-3) (P, W, L, T, SM, SW, C, IY, PY, MY)) : wpY_receive post (P, W, L, T, SM, SW, C, IY, PY, MY) (nI p) (nI r) (nI f) := by
  unfold wpY_receive
  exact om_yb hp (br_t rfl (om_yb hr (br_t rfl ⟨vp_in_nI (by omega) (by omega), br_f (om_ne0 hr hc hc3) (nm_r (om_m3 r) ⟨vp_in_nI (by omega) (by omega), nm_r (om_at rfl (by omega) hP) (om_yg hf (br_t rfl (br_t (om_leE (nI_add f q) om_l8 hg (by omega)) ⟨q + 1, om_yr1L hp hg q 0 (by omega) (fun k => absurd k hn) (fun _ => h)⟩)))⟩)⟩)))
theorem om_yreceive7a {post : Int32 → SY → Prop} {p r c f q n : Nat} (hp : p < 3) (hr : r < 3) (hc : C r = nI (c + 1)) (hq : q ≤ 3) (hg : f + q ≤ 8) (h : post (nI q) (om_it (fun i a => upd a (p * 8 + f + i) (vp_nar .boolean 1)) q 0 P, om_it (fun i a => upd a (p * 32 + f * 4 + i) (MY (r * 3 * 12 + i))) (q * 4) 0 W, upd L p (IY (r * 3)), T, SM, SW, upd C r (nI c), om_sh (om_sh IY (r * 3)) (r * 3 + 1), om_sh (om_sh PY (r * 3)) (r * 3 + 1), om_sw (om_sw MY (r * 3)) (r * 3 + 1))) : wY_receive_67 post (nI p) (nI r) (nI f) (nI (r * 3)) (nI q) P W L T SM SW C IY PY MY (n + 1) (nI q) :=
  br_t (nI_le (by omega) (by omega)) ⟨vp_in_nI (by omega) (by omega), vp_in_nI (by omega) (by omega), nm_r (om_u rfl (by omega) (om_at rfl (by omega) rfl)) ⟨q + 1, om_yr2L hp hr hg hq (by omega) hc q 0 P (by omega) h⟩⟩
theorem om_yreceive7 {post : Int32 → SY → Prop} {p r c q : Nat} (hp : p < 3) (hr : r < 3) (hc : C r = nI (c + 1)) (hc3 : c + 1 ≤ 3) (hq : q ≤ 3) (hP : PY (r * 3) = nI q) {f : Nat} (hf : f < 8) (hg : f + q ≤ 8) (hn : om_cnt P q (p * 8 + f) = 0) (h : post (nI q) (om_it (fun i a => upd a (p * 8 + f + i) (vp_nar .boolean 1)) q 0 P, om_it (fun i a => upd a (p * 32 + f * 4 + i) (MY (r * 3 * 12 + i))) (q * 4) 0 W, upd L p (IY (r * 3)), T, SM, SW, upd C r (nI c), om_sh (om_sh IY (r * 3)) (r * 3 + 1), om_sh (om_sh PY (r * 3)) (r * 3 + 1), om_sw (om_sw MY (r * 3)) (r * 3 + 1))) : wpY_receive post (P, W, L, T, SM, SW, C, IY, PY, MY) (nI p) (nI r) (nI f) := by
  unfold wpY_receive
  exact om_yb hp (br_t rfl (om_yb hr (br_t rfl ⟨vp_in_nI (by omega) (by omega), br_f (om_ne0 hr hc hc3) (nm_r (om_m3 r) ⟨vp_in_nI (by omega) (by omega), nm_r (om_at rfl (by omega) hP) (om_yg hf (br_t rfl (br_t (om_leE (nI_add f q) om_l8 hg (by omega)) ⟨q + 1, om_yr1L hp hg q 0 (by omega) (fun _ _ => om_yreceive7a hp hr hc hq hg h) (fun k => absurd hn k)⟩)))⟩)⟩)))
theorem om_ydrain1 {post : Int32 → SY → Prop} {x : Int32} (h1 : (x < 0 ∨ nI 3 ≤ x)) (h : post (-1) (P, W, L, T, SM, SW, C, IY, PY, MY)) : wpY_drain post (P, W, L, T, SM, SW, C, IY, PY, MY) x := by
  unfold wpY_drain
  exact om_ybB h1 (br_f om_10 h)
theorem om_ydrain2 {post : Int32 → SY → Prop} {r : Nat} (hr : r < 3) (h : post (C r) (P, W, L, T, SM, SW, upd C r 0, IY, PY, MY)) : wpY_drain post (P, W, L, T, SM, SW, C, IY, PY, MY) (nI r) := by
  unfold wpY_drain
  exact om_yb hr (br_t rfl ⟨vp_in_nI (by omega) (by omega), nm_r (om_at rfl (by omega) rfl) ⟨vp_in_nI (by omega) (by omega), nm_r (om_u rfl (by omega) rfl) h⟩⟩)
theorem om_ysnapshotB {post : Int32 → SY → Prop} {x : Int32} (h1 : (x < 0 ∨ nI 3 ≤ x)) (h : post (-1) (P, W, L, T, SM, SW, C, IY, PY, MY)) : wpY_snapshot post (P, W, L, T, SM, SW, C, IY, PY, MY) x := by
  unfold wpY_snapshot
  exact om_ybB h1 (br_f om_10 h)
theorem om_yrollBackB {post : Int32 → SY → Prop} {x : Int32} (h1 : (x < 0 ∨ nI 3 ≤ x)) (h : post (-1) (P, W, L, T, SM, SW, C, IY, PY, MY)) : wpY_rollBack post (P, W, L, T, SM, SW, C, IY, PY, MY) x := by
  unfold wpY_rollBack
  exact om_ybB h1 (br_f om_10 h)
theorem om_yexitB {post : Int32 → SY → Prop} {x : Int32} (h1 : (x < 0 ∨ nI 3 ≤ x)) (h : post (-1) (P, W, L, T, SM, SW, C, IY, PY, MY)) : wpY_exit post (P, W, L, T, SM, SW, C, IY, PY, MY) x := by
  unfold wpY_exit
  exact om_ybB h1 (br_f om_10 h)
theorem om_ysnapshotR {post : Int32 → SY → Prop} {p : Nat} (hp : p < 3) (h : post (nI (om_cnt P 8 (p * 8))) (P, W, L, upd T p (vp_nar .boolean 1), om_it (fun i a => upd a (p * 8 + i) (vp_nar .boolean (P (p * 8 + i)))) 8 0 SM, om_it (fun i a => upd a (p * 32 + i) (W (p * 32 + i))) 32 0 SW, C, IY, PY, MY)) : wpY_snapshot post (P, W, L, T, SM, SW, C, IY, PY, MY) (nI p) := by
  unfold wpY_snapshot
  exact om_yb hp (br_t rfl ⟨vp_in_nI (by omega) (by omega), nm_r (om_u rfl (by omega) rfl) (nm_r (om_m8 p) ⟨9, om_ysnapshot1 hp 8 0 SM rfl h⟩)⟩)
theorem om_yrollBackN {post : Int32 → SY → Prop} {p : Nat} (hp : p < 3) (z : T p = 0) (h : post (-7) (P, W, L, T, SM, SW, C, IY, PY, MY)) : wpY_rollBack post (P, W, L, T, SM, SW, C, IY, PY, MY) (nI p) := by
  unfold wpY_rollBack
  exact om_yb hp (br_t rfl ⟨vp_in_nI (by omega) (by omega), br_t (om_at rfl (by omega) z) h⟩)
theorem om_yrollBackR {post : Int32 → SY → Prop} {p : Nat} (hp : p < 3) (z : ¬ T p = 0) (h : post (nI (om_cnt (om_it (fun i a => upd a (p * 8 + i) (vp_nar .boolean (SM (p * 8 + i)))) 8 0 P) 8 (p * 8))) (om_it (fun i a => upd a (p * 8 + i) (vp_nar .boolean (SM (p * 8 + i)))) 8 0 P, om_it (fun i a => upd a (p * 32 + i) (SW (p * 32 + i))) 32 0 W, L, T, SM, SW, C, IY, PY, MY)) : wpY_rollBack post (P, W, L, T, SM, SW, C, IY, PY, MY) (nI p) := by
  unfold wpY_rollBack
  exact om_yb hp (br_t rfl ⟨vp_in_nI (by omega) (by omega), br_f (om_nt rfl (by omega) z) (nm_r (om_m8 p) ⟨9, om_yrollBack1 hp 8 0 P rfl h⟩)⟩)
theorem om_yexitR {post : Int32 → SY → Prop} {p : Nat} (hp : p < 3) (h : post (nI (om_cnt P 8 (p * 8))) (om_it (fun i a => upd a (p * 8 + i) (vp_nar .boolean 0)) 8 0 P, W, upd L p 0, upd T p (vp_nar .boolean 0), SM, SW, C, IY, PY, MY)) : wpY_exit post (P, W, L, T, SM, SW, C, IY, PY, MY) (nI p) := by
  unfold wpY_exit
  exact om_yb hp (br_t rfl (om_yc hp (nm_r (om_m8 p) ⟨9, om_yeL hp 8 0 P rfl h⟩)))
theorem om_yread1 {post : Int32 → Prop} {x y : Int32} (h1 : (x < 0 ∨ nI 3 ≤ x)) (h : post (0)) : wpY_read post (P, W, L, T, SM, SW, C, IY, PY, MY) x y := by
  unfold wpY_read
  exact om_ybB h1 (br_f om_10 h)
theorem om_yread2 {post : Int32 → Prop} {p : Nat} {y : Int32} (hp : p < 3) (h2 : (y < 0 ∨ nI 32 ≤ y)) (h : post (0)) : wpY_read post (P, W, L, T, SM, SW, C, IY, PY, MY) (nI p) y := by
  unfold wpY_read
  exact om_yb hp (br_t rfl (br_c (fun _ => h) (fun h0 => br_t (om_big (n := 31) (by decide) (h2.resolve_left h0)).2.2 h)))
theorem om_yread3 {post : Int32 → Prop} {p a : Nat} (hp : p < 3) (ha : a < 32) (z : P (p * 8 + a / 4) = 0) (h : post (0)) : wpY_read post (P, W, L, T, SM, SW, C, IY, PY, MY) (nI p) (nI a) := by
  unfold wpY_read
  exact om_yb hp (br_t rfl (br_f (nI_pos (by omega)) (br_f (nI_nlt (a := 31) (by omega) (by decide)) ⟨om_40, pk_in (p * 8 + a / 4) 24 (by omega) (om_i84 p ha), br_t (om_at (om_i84 p ha) (by omega) z) h⟩)))
theorem om_yread4 {post : Int32 → Prop} {p a : Nat} (hp : p < 3) (ha : a < 32) (z : ¬ P (p * 8 + a / 4) = 0) (h : post (W (p * 32 + a))) : wpY_read post (P, W, L, T, SM, SW, C, IY, PY, MY) (nI p) (nI a) := by
  unfold wpY_read
  refine om_yb hp (br_t rfl (br_f (nI_pos (by omega)) (br_f (nI_nlt (a := 31) (by omega) (by decide)) ⟨om_40, pk_in (p * 8 + a / 4) 24 (by omega) (om_i84 p ha), br_f (om_nt (om_i84 p ha) (by omega) z) ⟨pk_in (p * 32 + a) 96 (by omega) (om_i32 p a), ?_⟩⟩)))
  rw [om_i32, nI_clamp (by omega)]
  exact h
theorem om_ymapped1 {post : Int32 → Prop} {x y : Int32} (h1 : (x < 0 ∨ nI 3 ≤ x)) (h : post (0)) : wpY_mapped post (P, W, L, T, SM, SW, C, IY, PY, MY) x y := by
  unfold wpY_mapped
  exact om_ybB h1 (br_f om_10 h)
theorem om_ymapped2 {post : Int32 → Prop} {p : Nat} {y : Int32} (hp : p < 3) (h2 : (y < 0 ∨ nI 8 ≤ y)) (h : post (0)) : wpY_mapped post (P, W, L, T, SM, SW, C, IY, PY, MY) (nI p) y := by
  unfold wpY_mapped
  exact om_yb hp (br_t rfl (om_ygB h2 (br_f om_10 h)))
theorem om_ymapped3 {post : Int32 → Prop} {p q : Nat} (hp : p < 3) (hq : q < 8) (z : P (p * 8 + q) = 0) (h : post (0)) : wpY_mapped post (P, W, L, T, SM, SW, C, IY, PY, MY) (nI p) (nI q) := by
  unfold wpY_mapped
  exact om_yb hp (br_t rfl (om_yg hq (br_t rfl ⟨pk_in (p * 8 + q) 24 (by omega) (om_i8 p q), br_t (om_at (om_i8 p q) (by omega) z) h⟩)))
theorem om_ymapped4 {post : Int32 → Prop} {p q : Nat} (hp : p < 3) (hq : q < 8) (z : ¬ P (p * 8 + q) = 0) (h : post (1)) : wpY_mapped post (P, W, L, T, SM, SW, C, IY, PY, MY) (nI p) (nI q) := by
  unfold wpY_mapped
  exact om_yb hp (br_t rfl (om_yg hq (br_t rfl ⟨pk_in (p * 8 + q) 24 (by omega) (om_i8 p q), br_f (om_nt (om_i8 p q) (by omega) z) h⟩)))
theorem om_ylastWord1 {post : Int32 → Prop} {x : Int32} (h1 : (x < 0 ∨ nI 3 ≤ x)) (h : post (0)) : wpY_lastWord post (P, W, L, T, SM, SW, C, IY, PY, MY) x := by
  unfold wpY_lastWord
  exact om_ybB h1 (br_f om_10 h)
theorem om_ylastWord2 {post : Int32 → Prop} {p : Nat} (hp : p < 3) (h : post (L p)) : wpY_lastWord post (P, W, L, T, SM, SW, C, IY, PY, MY) (nI p) := by
  unfold wpY_lastWord
  refine om_yb hp (br_t rfl ⟨vp_in_nI (by omega) (by omega), ?_⟩)
  rw [nI_clamp (by omega)]
  exact h
theorem om_ywaiting1 {post : Int32 → Prop} {x : Int32} (h1 : (x < 0 ∨ nI 3 ≤ x)) (h : post (-1)) : wpY_waiting post (P, W, L, T, SM, SW, C, IY, PY, MY) x := by
  unfold wpY_waiting
  exact om_ybB h1 (br_f om_10 h)
theorem om_ywaiting2 {post : Int32 → Prop} {p : Nat} (hp : p < 3) (h : post (C p)) : wpY_waiting post (P, W, L, T, SM, SW, C, IY, PY, MY) (nI p) := by
  unfold wpY_waiting
  refine om_yb hp (br_t rfl ⟨vp_in_nI (by omega) (by omega), ?_⟩)
  rw [nI_clamp (by omega)]
  exact h
end
