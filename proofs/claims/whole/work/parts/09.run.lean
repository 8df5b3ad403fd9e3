/-! steps -/
section
variable {xP xC xA xL xO xQ xS xK yP yC yA yL yQ yS yK yD : Int32} {dA aA po st jm pl op el so ip va ov oc ed cl py sk sa sb sc yi yv yo yn jl pc sv bk be : Nat → Int32}
theorem dy_sc {post : Int32 → Prop} {L : Nat} {we : Bool} {w2 : Int32} (hL : L ≤ 64) (hw : w2 = 0 ↔ we = false) : ∀ n j d, n + j = L → d ≤ j → post (dl_sc sk we n j d) → wY_scanForward_7 post w2 yP yC yA (nI L) yQ yS yK yD ed cl py sk sa sb sc yi yv yo yn jl pc sv bk be (n + 1) (nI d) (nI j) := by
  intro n
  induction n with
  | zero =>
    intro j d hj hd h
    have e : j = L := by omega
    subst e
    exact br_t (nI_le (Nat.le_refl _) (by omega)) h
  | succ n ih =>
    intro j d hj hd h
    have d0 : nI d = 0 ↔ d = 0 := by
      rw [← nI_0]
      exact nI_eq (by omega) (by omega)
    have h : post (if sk j = 8 ∨ sk j = 11 then dl_sc sk we n (j + 1) (d + 1) else if sk j = 10 then (if d = 0 then (if we = true then -1 else nI j) else dl_sc sk we n (j + 1) (d - 1)) else if sk j = 9 ∧ d = 0 ∧ we = true then nI j else dl_sc sk we n (j + 1) d) := h
    refine br_f (nI_ge (by omega) (by omega)) ⟨vp_in_nI (by omega) (by omega), ?_⟩
    rw [dl_c (show j < 2 ^ 31 by omega)]
    refine nm_e (br_c (fun k => ?_) (fun k8 => br_c (fun k => ?_) (fun k11 => br_c (fun k => ?_) (fun k10 => br_c (fun k => ?_) (fun k9 => ?_)))))
    · rw [if_pos (Or.inl k)] at h
      exact nm_r (nI_1 d) (nm_r (nI_1 j) (ih (j + 1) (d + 1) (by omega) (by omega) h))
    · rw [if_pos (Or.inr k)] at h
      exact nm_r (nI_1 d) (nm_r (nI_1 j) (ih (j + 1) (d + 1) (by omega) (by omega) h))
    · rw [if_neg (fun z => z.elim k8 k11), if_pos k] at h
      refine br_c (fun z => ?_) (fun z => ?_)
      · rw [if_pos (d0.mp z)] at h
        refine br_c (fun y => ?_) (fun y => ?_)
        · rw [if_neg (by rw [hw.mp y]; decide)] at h
          exact h
        · rw [if_pos (dl_nt (fun u => y (hw.mpr u)))] at h
          exact h
      · have dz : ¬ d = 0 := fun u => z (d0.mpr u)
        rw [if_neg dz] at h
        obtain ⟨d', rfl⟩ : ∃ d', d = d' + 1 := ⟨d - 1, by omega⟩
        rw [Nat.add_sub_cancel] at h
        exact nm_r (pk_m1 d') (nm_r (nI_1 j) (ih (j + 1) d' (by omega) (by omega) h))
    · rw [if_neg (fun z => z.elim k8 k11), if_neg k10] at h
      refine br_c (fun z => ?_) (fun z => ?_)
      · refine br_c (fun y => ?_) (fun y => ?_)
        · rw [if_neg (fun u => by rw [hw.mp y] at u; exact absurd u.2.2 (by decide))] at h
          exact nm_r (nI_1 j) (ih (j + 1) d (by omega) (by omega) h)
        · rw [if_pos ⟨k, d0.mp z, dl_nt (fun u => y (hw.mpr u))⟩] at h
          exact h
      · rw [if_neg (fun u => z (d0.mpr u.2.1))] at h
        exact nm_r (nI_1 j) (ih (j + 1) d (by omega) (by omega) h)
    · rw [if_neg (fun z => z.elim k8 k11), if_neg k10, if_neg (fun u => k9 u.1)] at h
      exact nm_r (nI_1 j) (ih (j + 1) d (by omega) (by omega) h)
theorem dy_sf {post : Int32 → Prop} {L q : Nat} {we : Bool} {w2 : Int32} (hL : L ≤ 64) (hq : q < L) (hw : w2 = 0 ↔ we = false) (h : post (dl_sf sk L we (q + 1) 0)) : wpY_scanForward post (yP, yC, yA, nI L, yQ, yS, yK, yD, ed, cl, py, sk, sa, sb, sc, yi, yv, yo, yn, jl, pc, sv, bk, be) (nI q) w2 := by
  unfold wpY_scanForward
  exact nm_r (nI_1 q) ⟨L - (q + 1) + 1, dy_sc hL hw (L - (q + 1)) (q + 1) 0 (by omega) (by omega) h⟩
theorem dy_sb {post : Int32 → Prop} : ∀ i d, i ≤ 64 → d + i ≤ 128 → post (dl_sb sk i d) → wY_scanBack_6 post yP yC yA yL yQ yS yK yD ed cl py sk sa sb sc yi yv yo yn jl pc sv bk be (i + 1) (nI d) (nI i + (-1)) := by
  intro i
  induction i with
  | zero =>
    intro d _ _ h
    exact br_t (by decide) h
  | succ i ih =>
    intro d hi hd h
    have d0 : nI d = 0 ↔ d = 0 := by
      rw [← nI_0]
      exact nI_eq (by omega) (by omega)
    have h : post (if sk i = 10 then dl_sb sk i (d + 1) else if sk i = 8 ∨ sk i = 11 then (if d = 0 then nI i else dl_sb sk i (d - 1)) else dl_sb sk i d) := h
    rw [pk_m1]
    refine br_f (nI_pos (by omega)) ⟨vp_in_nI (by omega) (by omega), ?_⟩
    rw [dl_c (show i < 2 ^ 31 by omega)]
    have opn : ¬ sk i = 10 → (sk i = 8 ∨ sk i = 11) → wY_scanBack_45 post (wY_scanBack_6 post yP yC yA yL yQ yS yK yD ed cl py sk sa sb sc yi yv yo yn jl pc sv bk be (i + 1)) (nI d) (nI i) yP yC yA yL yQ yS yK yD ed cl py sk sa sb sc yi yv yo yn jl pc sv bk be := by
      intro k10 k
      rw [if_neg k10, if_pos k] at h
      refine br_c (fun z => ?_) (fun z => ?_)
      · rw [if_pos (d0.mp z)] at h
        exact h
      · have dz : ¬ d = 0 := fun u => z (d0.mpr u)
        rw [if_neg dz] at h
        obtain ⟨d', rfl⟩ : ∃ d', d = d' + 1 := ⟨d - 1, by omega⟩
        rw [Nat.add_sub_cancel] at h
        exact nm_r (pk_m1 d') (nm_e (ih d' (by omega) (by omega) h))
    refine nm_e (br_c (fun k => ?_) (fun k10 => br_c (fun k => opn k10 (Or.inl k)) (fun k8 => br_c (fun k => opn k10 (Or.inr k)) (fun k11 => ?_))))
    · rw [if_pos k] at h
      exact nm_r (nI_1 d) (nm_e (ih (d + 1) (by omega) (by omega) h))
    · rw [if_neg k10, if_neg (fun z => z.elim k8 k11)] at h
      exact nm_e (ih d (by omega) (by omega) h)
theorem dy_back {post : Int32 → Prop} {q : Nat} (hq : q ≤ 64) (h : post (dl_sb sk q 0)) : wpY_scanBack post (yP, yC, yA, yL, yQ, yS, yK, yD, ed, cl, py, sk, sa, sb, sc, yi, yv, yo, yn, jl, pc, sv, bk, be) (nI q) := by
  unfold wpY_scanBack
  exact nm_r (e' := nI q + (-1)) (Int32.sub_eq_add_neg _ _) ⟨q + 1, dy_sb q 0 hq (by omega) h⟩
theorem dy_after {post : SY → Prop} {L q : Nat} (hL : L ≤ 64) (hq : q < L) (h : post (yP, yC, yA, nI L, dl_af sk L q, yS, yK, yD, ed, cl, py, sk, sa, sb, sc, yi, yv, yo, yn, jl, pc, sv, bk, be)) : wpY_afterEnd post (yP, yC, yA, nI L, yQ, yS, yK, yD, ed, cl, py, sk, sa, sb, sc, yi, yv, yo, yn, jl, pc, sv, bk, be) (nI q) := by
  unfold wpY_afterEnd
  refine dy_sf (we := false) hL hq ⟨fun _ => rfl, fun _ => rfl⟩ ?_
  unfold dl_af at h
  refine br_c (fun z => ?_) (fun z => ?_)
  · rw [if_neg (Int32.not_lt.mpr z)] at h
    exact nm_e h
  · rw [if_pos (Int32.not_le.mp z)] at h
    exact h
/-- the states of a step agree -/
def dl_H (P C L q : Nat) (xA xO xS xK yD : Int32) (dA aA po st jm pl op el so ip va ov oc ed cl sk sa sb sc jl pc sv bk be : Nat → Int32) : Prop := ∃ (q' : Nat) (va' ov' oc' : Nat → Int32), q' ≤ L ∧ (∀ c, c < 4 → ∃ n, n ≤ 16 ∧ oc' c = nI n) ∧ (∀ post : SX → Prop, post (nI P, nI C, xA, nI L, xO, nI q', xS, xK, dA, aA, po, st, jm, pl, op, el, so, ip, va', ov', oc') → wpX_step post (nI P, nI C, xA, nI L, xO, nI q, xS, xK, dA, aA, po, st, jm, pl, op, el, so, ip, va, ov, oc)) ∧ (∀ post : SY → Prop, post (nI P, nI C, xA, nI L, nI q', xS, xK, yD, ed, cl, po, sk, sa, sb, sc, ip, va', ov', oc', jl, pc, sv, bk, be) → wpY_exec post (nI P, nI C, xA, nI L, nI q, xS, xK, yD, ed, cl, po, sk, sa, sb, sc, ip, va, ov, oc, jl, pc, sv, bk, be))
theorem dl_h1 {P C L q : Nat} (hL : L ≤ 64) (hq : q < L) (ho : ∀ c, c < 4 → ∃ n, n ≤ 16 ∧ oc c = nI n) (hp : dl_P L st sk sa sb sc) (k : sk q = 1) (va' : dl_v (sa q)) : dl_H P C L q xA xO xS xK yD dA aA po st jm pl op el so ip va ov oc ed cl sk sa sb sc jl pc sv bk be := by
  obtain ⟨p0, p1, p2, p3, _⟩ := hp q hq
  obtain ⟨v0, c0⟩ := dl_s0 (show q < 64 by omega)
  obtain ⟨v1, c1⟩ := dl_s1 (show q < 64 by omega)
  obtain ⟨v2, c2⟩ := dl_s2 (show q < 64 by omega)
  obtain ⟨v3, c3⟩ := dl_s3 (show q < 64 by omega)
  have vq : vp_in (nI q) 64 := vp_in_nI (by omega) (by omega)
  have cq := dl_c (show q < 2 ^ 31 by omega)
  obtain ⟨t, ht, ea⟩ := va'
  have ct := dl_c (show t < 2 ^ 31 by omega)
  refine ⟨q + 1, upd va t (sb q), ov, oc, by omega, ho, fun post z => ?_, fun post z => ?_⟩
  · unfold wpX_step
    exact nm_r (dl_m4 q) ⟨v0, nm_r (e' := 1) (by rw [c0]; exact p0.trans k) ⟨v1, nm_r (e' := nI t) (by rw [c1]; exact p1.trans ea) ⟨v2, nm_e ⟨v3, nm_e (br_t (by decide) (br_f (by decide) (br_f (by decide) (br_t rfl ⟨vp_in_nI ht (by omega), nm_r (e' := upd va t (sb q)) (by rw [ct, c2, p2]) (nm_r (nI_1 q) z)⟩))))⟩⟩⟩⟩
  · unfold wpY_exec
    exact ⟨vq, nm_r (e' := 1) (by rw [cq]; exact k) ⟨vq, nm_r (e' := nI t) (by rw [cq]; exact ea) ⟨vq, nm_e ⟨vq, nm_e (nm_r (nI_1 q) (br_t rfl ⟨vp_in_nI ht (by omega), nm_r (e' := upd va t (sb q)) (by rw [ct, cq]) z⟩))⟩⟩⟩⟩
theorem dl_h2 {P C L q : Nat} (hL : L ≤ 64) (hq : q < L) (ho : ∀ c, c < 4 → ∃ n, n ≤ 16 ∧ oc c = nI n) (hp : dl_P L st sk sa sb sc) (k : sk q = 2) (va' : dl_v (sa q)) (vb' : dl_v (sb q)) : dl_H P C L q xA xO xS xK yD dA aA po st jm pl op el so ip va ov oc ed cl sk sa sb sc jl pc sv bk be := by
  obtain ⟨p0, p1, p2, p3, _⟩ := hp q hq
  obtain ⟨v0, c0⟩ := dl_s0 (show q < 64 by omega)
  obtain ⟨v1, c1⟩ := dl_s1 (show q < 64 by omega)
  obtain ⟨v2, c2⟩ := dl_s2 (show q < 64 by omega)
  obtain ⟨v3, c3⟩ := dl_s3 (show q < 64 by omega)
  have vq : vp_in (nI q) 64 := vp_in_nI (by omega) (by omega)
  have cq := dl_c (show q < 2 ^ 31 by omega)
  obtain ⟨t, ht, ea⟩ := va'
  have ct := dl_c (show t < 2 ^ 31 by omega)
  obtain ⟨b, hb, eb⟩ := vb'
  have cb := dl_c (show b < 2 ^ 31 by omega)
  refine ⟨q + 1, upd va t (va b), ov, oc, by omega, ho, fun post z => ?_, fun post z => ?_⟩
  · unfold wpX_step
    exact nm_r (dl_m4 q) ⟨v0, nm_r (e' := 2) (by rw [c0]; exact p0.trans k) ⟨v1, nm_r (e' := nI t) (by rw [c1]; exact p1.trans ea) ⟨v2, nm_r (e' := nI b) (by rw [c2]; exact p2.trans eb) ⟨v3, nm_e (br_t (by decide) (br_f (by decide) (br_f (by decide) (br_f (by decide) (br_t rfl ⟨vp_in_nI hb (by omega), ⟨vp_in_nI ht (by omega), nm_r (e' := upd va t (va b)) (by rw [ct, cb]) (nm_r (nI_1 q) z)⟩⟩)))))⟩⟩⟩⟩
  · unfold wpY_exec
    exact ⟨vq, nm_r (e' := 2) (by rw [cq]; exact k) ⟨vq, nm_r (e' := nI t) (by rw [cq]; exact ea) ⟨vq, nm_r (e' := nI b) (by rw [cq]; exact eb) ⟨vq, nm_e (nm_r (nI_1 q) (br_f (by decide) (br_t rfl (And.intro (vp_in_nI hb (by omega)) ⟨vp_in_nI ht (by omega), nm_r (e' := upd va t (va b)) (by rw [ct, cb]) z⟩))))⟩⟩⟩⟩
theorem dl_h13 {P C L q : Nat} (hL : L ≤ 64) (hq : q < L) (ho : ∀ c, c < 4 → ∃ n, n ≤ 16 ∧ oc c = nI n) (hp : dl_P L st sk sa sb sc) (k : sk q = 13) (va' : dl_v (sa q)) (vb' : dl_v (sb q)) : dl_H P C L q xA xO xS xK yD dA aA po st jm pl op el so ip va ov oc ed cl sk sa sb sc jl pc sv bk be := by
  obtain ⟨p0, p1, p2, p3, _⟩ := hp q hq
  obtain ⟨v0, c0⟩ := dl_s0 (show q < 64 by omega)
  obtain ⟨v1, c1⟩ := dl_s1 (show q < 64 by omega)
  obtain ⟨v2, c2⟩ := dl_s2 (show q < 64 by omega)
  obtain ⟨v3, c3⟩ := dl_s3 (show q < 64 by omega)
  have vq : vp_in (nI q) 64 := vp_in_nI (by omega) (by omega)
  have cq := dl_c (show q < 2 ^ 31 by omega)
  obtain ⟨t, ht, ea⟩ := va'
  have ct := dl_c (show t < 2 ^ 31 by omega)
  obtain ⟨b, hb, eb⟩ := vb'
  have cb := dl_c (show b < 2 ^ 31 by omega)
  refine ⟨q + 1, upd va t (va b), ov, oc, by omega, ho, fun post z => ?_, fun post z => ?_⟩
  · unfold wpX_step
    exact nm_r (dl_m4 q) ⟨v0, nm_r (e' := 13) (by rw [c0]; exact p0.trans k) ⟨v1, nm_r (e' := nI t) (by rw [c1]; exact p1.trans ea) ⟨v2, nm_r (e' := nI b) (by rw [c2]; exact p2.trans eb) ⟨v3, nm_e (br_f (by decide) (br_t (by decide) (br_f (by decide) (br_t (by decide) ⟨vp_in_nI hb (by omega), ⟨vp_in_nI ht (by omega), nm_r (e' := upd va t (va b)) (by rw [ct, cb]) (nm_r (nI_1 q) z)⟩⟩))))⟩⟩⟩⟩
  · unfold wpY_exec
    exact ⟨vq, nm_r (e' := 13) (by rw [cq]; exact k) ⟨vq, nm_r (e' := nI t) (by rw [cq]; exact ea) ⟨vq, nm_r (e' := nI b) (by rw [cq]; exact eb) ⟨vq, nm_e (nm_r (nI_1 q) (br_f (by decide) (br_f (by decide) (br_t rfl (And.intro (vp_in_nI hb (by omega)) ⟨vp_in_nI ht (by omega), nm_r (e' := upd va t (va b)) (by rw [ct, cb]) z⟩)))))⟩⟩⟩⟩
theorem dl_h3 {P C L q : Nat} (hL : L ≤ 64) (hq : q < L) (ho : ∀ c, c < 4 → ∃ n, n ≤ 16 ∧ oc c = nI n) (hp : dl_P L st sk sa sb sc) (k : sk q = 3) (va' : dl_v (sa q)) (vb' : dl_v (sb q)) (vc' : dl_v (sc q)) : dl_H P C L q xA xO xS xK yD dA aA po st jm pl op el so ip va ov oc ed cl sk sa sb sc jl pc sv bk be := by
  obtain ⟨p0, p1, p2, p3, _⟩ := hp q hq
  obtain ⟨v0, c0⟩ := dl_s0 (show q < 64 by omega)
  obtain ⟨v1, c1⟩ := dl_s1 (show q < 64 by omega)
  obtain ⟨v2, c2⟩ := dl_s2 (show q < 64 by omega)
  obtain ⟨v3, c3⟩ := dl_s3 (show q < 64 by omega)
  have vq : vp_in (nI q) 64 := vp_in_nI (by omega) (by omega)
  have cq := dl_c (show q < 2 ^ 31 by omega)
  obtain ⟨t, ht, ea⟩ := va'
  have ct := dl_c (show t < 2 ^ 31 by omega)
  obtain ⟨b, hb, eb⟩ := vb'
  have cb := dl_c (show b < 2 ^ 31 by omega)
  obtain ⟨c, hc2, ec⟩ := vc'
  have cc := dl_c (show c < 2 ^ 31 by omega)
  refine ⟨q + 1, upd va t (va b + va c), ov, oc, by omega, ho, fun post z => ?_, fun post z => ?_⟩
  · unfold wpX_step
    exact nm_r (dl_m4 q) ⟨v0, nm_r (e' := 3) (by rw [c0]; exact p0.trans k) ⟨v1, nm_r (e' := nI t) (by rw [c1]; exact p1.trans ea) ⟨v2, nm_r (e' := nI b) (by rw [c2]; exact p2.trans eb) ⟨v3, nm_r (e' := nI c) (by rw [c3]; exact p3.trans ec) (br_t (by decide) (br_f (by decide) (br_f (by decide) (br_f (by decide) (br_f (by decide) (br_t rfl ⟨vp_in_nI hb (by omega), vp_in_nI hc2 (by omega), ⟨vp_in_nI ht (by omega), nm_r (e' := upd va t (va b + va c)) (by rw [ct, cb, cc]) (nm_r (nI_1 q) z)⟩⟩))))))⟩⟩⟩⟩
  · unfold wpY_exec
    exact ⟨vq, nm_r (e' := 3) (by rw [cq]; exact k) ⟨vq, nm_r (e' := nI t) (by rw [cq]; exact ea) ⟨vq, nm_r (e' := nI b) (by rw [cq]; exact eb) ⟨vq, nm_r (e' := nI c) (by rw [cq]; exact ec) (nm_r (nI_1 q) (br_f (by decide) (br_f (by decide) (br_f (by decide) (br_t rfl ⟨vp_in_nI hb (by omega), vp_in_nI hc2 (by omega), vp_in_nI ht (by omega), nm_r (e' := upd va t (va b + va c)) (by rw [ct, cb, cc]) z⟩)))))⟩⟩⟩⟩
theorem dl_h4 {P C L q : Nat} (hL : L ≤ 64) (hq : q < L) (ho : ∀ c, c < 4 → ∃ n, n ≤ 16 ∧ oc c = nI n) (hp : dl_P L st sk sa sb sc) (k : sk q = 4) (va' : dl_v (sa q)) (vb' : dl_v (sb q)) (vc' : dl_v (sc q)) : dl_H P C L q xA xO xS xK yD dA aA po st jm pl op el so ip va ov oc ed cl sk sa sb sc jl pc sv bk be := by
  obtain ⟨p0, p1, p2, p3, _⟩ := hp q hq
  obtain ⟨v0, c0⟩ := dl_s0 (show q < 64 by omega)
  obtain ⟨v1, c1⟩ := dl_s1 (show q < 64 by omega)
  obtain ⟨v2, c2⟩ := dl_s2 (show q < 64 by omega)
  obtain ⟨v3, c3⟩ := dl_s3 (show q < 64 by omega)
  have vq : vp_in (nI q) 64 := vp_in_nI (by omega) (by omega)
  have cq := dl_c (show q < 2 ^ 31 by omega)
  obtain ⟨t, ht, ea⟩ := va'
  have ct := dl_c (show t < 2 ^ 31 by omega)
  obtain ⟨b, hb, eb⟩ := vb'
  have cb := dl_c (show b < 2 ^ 31 by omega)
  obtain ⟨c, hc2, ec⟩ := vc'
  have cc := dl_c (show c < 2 ^ 31 by omega)
  refine ⟨q + 1, upd va t (va b - va c), ov, oc, by omega, ho, fun post z => ?_, fun post z => ?_⟩
  · unfold wpX_step
    exact nm_r (dl_m4 q) ⟨v0, nm_r (e' := 4) (by rw [c0]; exact p0.trans k) ⟨v1, nm_r (e' := nI t) (by rw [c1]; exact p1.trans ea) ⟨v2, nm_r (e' := nI b) (by rw [c2]; exact p2.trans eb) ⟨v3, nm_r (e' := nI c) (by rw [c3]; exact p3.trans ec) (br_t (by decide) (br_f (by decide) (br_f (by decide) (br_f (by decide) (br_f (by decide) (br_f (by decide) (br_t rfl ⟨vp_in_nI hb (by omega), vp_in_nI hc2 (by omega), ⟨vp_in_nI ht (by omega), nm_r (e' := upd va t (va b - va c)) (by rw [ct, cb, cc]) (nm_r (nI_1 q) z)⟩⟩)))))))⟩⟩⟩⟩
  · unfold wpY_exec
    exact ⟨vq, nm_r (e' := 4) (by rw [cq]; exact k) ⟨vq, nm_r (e' := nI t) (by rw [cq]; exact ea) ⟨vq, nm_r (e' := nI b) (by rw [cq]; exact eb) ⟨vq, nm_r (e' := nI c) (by rw [cq]; exact ec) (nm_r (nI_1 q) (br_f (by decide) (br_f (by decide) (br_f (by decide) (br_f (by decide) (br_t rfl ⟨vp_in_nI hb (by omega), vp_in_nI hc2 (by omega), vp_in_nI ht (by omega), nm_r (e' := upd va t (va b - va c)) (by rw [ct, cb, cc]) z⟩))))))⟩⟩⟩⟩
theorem dl_h5 {P C L q : Nat} (hL : L ≤ 64) (hq : q < L) (ho : ∀ c, c < 4 → ∃ n, n ≤ 16 ∧ oc c = nI n) (hp : dl_P L st sk sa sb sc) (k : sk q = 5) (va' : dl_v (sa q)) (vb' : dl_v (sb q)) (vc' : dl_v (sc q)) : dl_H P C L q xA xO xS xK yD dA aA po st jm pl op el so ip va ov oc ed cl sk sa sb sc jl pc sv bk be := by
  obtain ⟨p0, p1, p2, p3, _⟩ := hp q hq
  obtain ⟨v0, c0⟩ := dl_s0 (show q < 64 by omega)
  obtain ⟨v1, c1⟩ := dl_s1 (show q < 64 by omega)
  obtain ⟨v2, c2⟩ := dl_s2 (show q < 64 by omega)
  obtain ⟨v3, c3⟩ := dl_s3 (show q < 64 by omega)
  have vq : vp_in (nI q) 64 := vp_in_nI (by omega) (by omega)
  have cq := dl_c (show q < 2 ^ 31 by omega)
  obtain ⟨t, ht, ea⟩ := va'
  have ct := dl_c (show t < 2 ^ 31 by omega)
  obtain ⟨b, hb, eb⟩ := vb'
  have cb := dl_c (show b < 2 ^ 31 by omega)
  obtain ⟨c, hc2, ec⟩ := vc'
  have cc := dl_c (show c < 2 ^ 31 by omega)
  refine ⟨q + 1, upd va t (va b * va c), ov, oc, by omega, ho, fun post z => ?_, fun post z => ?_⟩
  · unfold wpX_step
    exact nm_r (dl_m4 q) ⟨v0, nm_r (e' := 5) (by rw [c0]; exact p0.trans k) ⟨v1, nm_r (e' := nI t) (by rw [c1]; exact p1.trans ea) ⟨v2, nm_r (e' := nI b) (by rw [c2]; exact p2.trans eb) ⟨v3, nm_r (e' := nI c) (by rw [c3]; exact p3.trans ec) (br_t (by decide) (br_f (by decide) (br_f (by decide) (br_f (by decide) (br_f (by decide) (br_f (by decide) (br_f (by decide) (br_t rfl ⟨vp_in_nI hb (by omega), vp_in_nI hc2 (by omega), ⟨vp_in_nI ht (by omega), nm_r (e' := upd va t (va b * va c)) (by rw [ct, cb, cc]) (nm_r (nI_1 q) z)⟩⟩))))))))⟩⟩⟩⟩
  · unfold wpY_exec
    exact ⟨vq, nm_r (e' := 5) (by rw [cq]; exact k) ⟨vq, nm_r (e' := nI t) (by rw [cq]; exact ea) ⟨vq, nm_r (e' := nI b) (by rw [cq]; exact eb) ⟨vq, nm_r (e' := nI c) (by rw [cq]; exact ec) (nm_r (nI_1 q) (br_f (by decide) (br_f (by decide) (br_f (by decide) (br_f (by decide) (br_f (by decide) (br_t rfl ⟨vp_in_nI hb (by omega), vp_in_nI hc2 (by omega), vp_in_nI ht (by omega), nm_r (e' := upd va t (va b * va c)) (by rw [ct, cb, cc]) z⟩)))))))⟩⟩⟩⟩
theorem dl_h6 {P C L q : Nat} (hL : L ≤ 64) (hq : q < L) (ho : ∀ c, c < 4 → ∃ n, n ≤ 16 ∧ oc c = nI n) (hp : dl_P L st sk sa sb sc) (k : sk q = 6) (va' : dl_v (sa q)) (vb' : dl_v (sb q)) (vc' : dl_v (sc q)) : dl_H P C L q xA xO xS xK yD dA aA po st jm pl op el so ip va ov oc ed cl sk sa sb sc jl pc sv bk be := by
  obtain ⟨p0, p1, p2, p3, _⟩ := hp q hq
  obtain ⟨v0, c0⟩ := dl_s0 (show q < 64 by omega)
  obtain ⟨v1, c1⟩ := dl_s1 (show q < 64 by omega)
  obtain ⟨v2, c2⟩ := dl_s2 (show q < 64 by omega)
  obtain ⟨v3, c3⟩ := dl_s3 (show q < 64 by omega)
  have vq : vp_in (nI q) 64 := vp_in_nI (by omega) (by omega)
  have cq := dl_c (show q < 2 ^ 31 by omega)
  obtain ⟨t, ht, ea⟩ := va'
  have ct := dl_c (show t < 2 ^ 31 by omega)
  obtain ⟨b, hb, eb⟩ := vb'
  have cb := dl_c (show b < 2 ^ 31 by omega)
  obtain ⟨c, hc2, ec⟩ := vc'
  have cc := dl_c (show c < 2 ^ 31 by omega)
  by_cases g : va c ≤ va b
  · refine ⟨q + 1, upd va t 0, ov, oc, by omega, ho, fun post z => ?_, fun post z => ?_⟩
    · unfold wpX_step
      refine nm_r (dl_m4 q) ⟨v0, nm_r (e' := 6) (by rw [c0]; exact p0.trans k) ⟨v1, nm_r (e' := nI t) (by rw [c1]; exact p1.trans ea) ⟨v2, nm_r (e' := nI b) (by rw [c2]; exact p2.trans eb) ⟨v3, nm_r (e' := nI c) (by rw [c3]; exact p3.trans ec) (br_t (by decide) (br_f (by decide) (br_f (by decide) (br_f (by decide) (br_f (by decide) (br_f (by decide) (br_f (by decide) (br_f (by decide) (br_t rfl ⟨vp_in_nI hb (by omega), vp_in_nI hc2 (by omega), ?_⟩)))))))))⟩⟩⟩⟩
      rw [cb, cc]
      exact br_t g ⟨vp_in_nI ht (by omega), nm_r (e' := upd va t 0) (by rw [ct]) (nm_r (nI_1 q) z)⟩
    · unfold wpY_exec
      refine ⟨vq, nm_r (e' := 6) (by rw [cq]; exact k) ⟨vq, nm_r (e' := nI t) (by rw [cq]; exact ea) ⟨vq, nm_r (e' := nI b) (by rw [cq]; exact eb) ⟨vq, nm_r (e' := nI c) (by rw [cq]; exact ec) (nm_r (nI_1 q) (br_f (by decide) (br_f (by decide) (br_f (by decide) (br_f (by decide) (br_f (by decide) (br_f (by decide) (br_t rfl ⟨vp_in_nI hb (by omega), vp_in_nI hc2 (by omega), ?_⟩))))))))⟩⟩⟩⟩
      rw [cb, cc]
      exact br_t g ⟨vp_in_nI ht (by omega), nm_r (e' := upd va t 0) (by rw [ct]) z⟩
  · refine ⟨q + 1, upd va t 1, ov, oc, by omega, ho, fun post z => ?_, fun post z => ?_⟩
    · unfold wpX_step
      refine nm_r (dl_m4 q) ⟨v0, nm_r (e' := 6) (by rw [c0]; exact p0.trans k) ⟨v1, nm_r (e' := nI t) (by rw [c1]; exact p1.trans ea) ⟨v2, nm_r (e' := nI b) (by rw [c2]; exact p2.trans eb) ⟨v3, nm_r (e' := nI c) (by rw [c3]; exact p3.trans ec) (br_t (by decide) (br_f (by decide) (br_f (by decide) (br_f (by decide) (br_f (by decide) (br_f (by decide) (br_f (by decide) (br_f (by decide) (br_t rfl ⟨vp_in_nI hb (by omega), vp_in_nI hc2 (by omega), ?_⟩)))))))))⟩⟩⟩⟩
      rw [cb, cc]
      exact br_f g ⟨vp_in_nI ht (by omega), nm_r (e' := upd va t 1) (by rw [ct]) (nm_r (nI_1 q) z)⟩
    · unfold wpY_exec
      refine ⟨vq, nm_r (e' := 6) (by rw [cq]; exact k) ⟨vq, nm_r (e' := nI t) (by rw [cq]; exact ea) ⟨vq, nm_r (e' := nI b) (by rw [cq]; exact eb) ⟨vq, nm_r (e' := nI c) (by rw [cq]; exact ec) (nm_r (nI_1 q) (br_f (by decide) (br_f (by decide) (br_f (by decide) (br_f (by decide) (br_f (by decide) (br_f (by decide) (br_t rfl ⟨vp_in_nI hb (by omega), vp_in_nI hc2 (by omega), ?_⟩))))))))⟩⟩⟩⟩
      rw [cb, cc]
      exact br_f g ⟨vp_in_nI ht (by omega), nm_r (e' := upd va t 1) (by rw [ct]) z⟩
theorem dl_h7 {P C L q : Nat} (hL : L ≤ 64) (hq : q < L) (ho : ∀ c, c < 4 → ∃ n, n ≤ 16 ∧ oc c = nI n) (hp : dl_P L st sk sa sb sc) (k : sk q = 7) (va' : dl_v (sa q)) (vb' : dl_v (sb q)) (vc' : dl_v (sc q)) : dl_H P C L q xA xO xS xK yD dA aA po st jm pl op el so ip va ov oc ed cl sk sa sb sc jl pc sv bk be := by
  obtain ⟨p0, p1, p2, p3, _⟩ := hp q hq
  obtain ⟨v0, c0⟩ := dl_s0 (show q < 64 by omega)
  obtain ⟨v1, c1⟩ := dl_s1 (show q < 64 by omega)
  obtain ⟨v2, c2⟩ := dl_s2 (show q < 64 by omega)
  obtain ⟨v3, c3⟩ := dl_s3 (show q < 64 by omega)
  have vq : vp_in (nI q) 64 := vp_in_nI (by omega) (by omega)
  have cq := dl_c (show q < 2 ^ 31 by omega)
  obtain ⟨t, ht, ea⟩ := va'
  have ct := dl_c (show t < 2 ^ 31 by omega)
  obtain ⟨b, hb, eb⟩ := vb'
  have cb := dl_c (show b < 2 ^ 31 by omega)
  obtain ⟨c, hc2, ec⟩ := vc'
  have cc := dl_c (show c < 2 ^ 31 by omega)
  by_cases g : va b = va c
  · refine ⟨q + 1, upd va t 1, ov, oc, by omega, ho, fun post z => ?_, fun post z => ?_⟩
    · unfold wpX_step
      refine nm_r (dl_m4 q) ⟨v0, nm_r (e' := 7) (by rw [c0]; exact p0.trans k) ⟨v1, nm_r (e' := nI t) (by rw [c1]; exact p1.trans ea) ⟨v2, nm_r (e' := nI b) (by rw [c2]; exact p2.trans eb) ⟨v3, nm_r (e' := nI c) (by rw [c3]; exact p3.trans ec) (br_t (by decide) (br_f (by decide) (br_f (by decide) (br_f (by decide) (br_f (by decide) (br_f (by decide) (br_f (by decide) (br_f (by decide) (br_f (by decide) (br_t rfl ⟨vp_in_nI hb (by omega), vp_in_nI hc2 (by omega), ?_⟩))))))))))⟩⟩⟩⟩
      rw [cb, cc]
      exact br_t g ⟨vp_in_nI ht (by omega), nm_r (e' := upd va t 1) (by rw [ct]) (nm_r (nI_1 q) z)⟩
    · unfold wpY_exec
      refine ⟨vq, nm_r (e' := 7) (by rw [cq]; exact k) ⟨vq, nm_r (e' := nI t) (by rw [cq]; exact ea) ⟨vq, nm_r (e' := nI b) (by rw [cq]; exact eb) ⟨vq, nm_r (e' := nI c) (by rw [cq]; exact ec) (nm_r (nI_1 q) (br_f (by decide) (br_f (by decide) (br_f (by decide) (br_f (by decide) (br_f (by decide) (br_f (by decide) (br_f (by decide) (br_t rfl ⟨vp_in_nI hb (by omega), vp_in_nI hc2 (by omega), ?_⟩)))))))))⟩⟩⟩⟩
      rw [cb, cc]
      exact br_t g ⟨vp_in_nI ht (by omega), nm_r (e' := upd va t 1) (by rw [ct]) z⟩
  · refine ⟨q + 1, upd va t 0, ov, oc, by omega, ho, fun post z => ?_, fun post z => ?_⟩
    · unfold wpX_step
      refine nm_r (dl_m4 q) ⟨v0, nm_r (e' := 7) (by rw [c0]; exact p0.trans k) ⟨v1, nm_r (e' := nI t) (by rw [c1]; exact p1.trans ea) ⟨v2, nm_r (e' := nI b) (by rw [c2]; exact p2.trans eb) ⟨v3, nm_r (e' := nI c) (by rw [c3]; exact p3.trans ec) (br_t (by decide) (br_f (by decide) (br_f (by decide) (br_f (by decide) (br_f (by decide) (br_f (by decide) (br_f (by decide) (br_f (by decide) (br_f (by decide) (br_t rfl ⟨vp_in_nI hb (by omega), vp_in_nI hc2 (by omega), ?_⟩))))))))))⟩⟩⟩⟩
      rw [cb, cc]
      exact br_f g ⟨vp_in_nI ht (by omega), nm_r (e' := upd va t 0) (by rw [ct]) (nm_r (nI_1 q) z)⟩
    · unfold wpY_exec
      refine ⟨vq, nm_r (e' := 7) (by rw [cq]; exact k) ⟨vq, nm_r (e' := nI t) (by rw [cq]; exact ea) ⟨vq, nm_r (e' := nI b) (by rw [cq]; exact eb) ⟨vq, nm_r (e' := nI c) (by rw [cq]; exact ec) (nm_r (nI_1 q) (br_f (by decide) (br_f (by decide) (br_f (by decide) (br_f (by decide) (br_f (by decide) (br_f (by decide) (br_f (by decide) (br_t rfl ⟨vp_in_nI hb (by omega), vp_in_nI hc2 (by omega), ?_⟩)))))))))⟩⟩⟩⟩
      rw [cb, cc]
      exact br_f g ⟨vp_in_nI ht (by omega), nm_r (e' := upd va t 0) (by rw [ct]) z⟩
theorem dl_h12 {P C L q : Nat} (hL : L ≤ 64) (hq : q < L) (ho : ∀ c, c < 4 → ∃ n, n ≤ 16 ∧ oc c = nI n) (hp : dl_P L st sk sa sb sc) (k : sk q = 12) (va' : dl_hc (sa q)) (vb' : dl_v (sb q)) : dl_H P C L q xA xO xS xK yD dA aA po st jm pl op el so ip va ov oc ed cl sk sa sb sc jl pc sv bk be := by
  obtain ⟨p0, p1, p2, p3, _⟩ := hp q hq
  obtain ⟨v0, c0⟩ := dl_s0 (show q < 64 by omega)
  obtain ⟨v1, c1⟩ := dl_s1 (show q < 64 by omega)
  obtain ⟨v2, c2⟩ := dl_s2 (show q < 64 by omega)
  obtain ⟨v3, c3⟩ := dl_s3 (show q < 64 by omega)
  have vq : vp_in (nI q) 64 := vp_in_nI (by omega) (by omega)
  have cq := dl_c (show q < 2 ^ 31 by omega)
  obtain ⟨t, ht, ea⟩ := va'
  have ct := dl_c (show t < 2 ^ 31 by omega)
  obtain ⟨b, hb, eb⟩ := vb'
  have cb := dl_c (show b < 2 ^ 31 by omega)
  obtain ⟨n, hn, en⟩ := ho t ht
  have vt : vp_in (nI t) 4 := vp_in_nI ht (by omega)
  have vb2 : vp_in (nI b) 16 := vp_in_nI hb (by omega)
  rcases Nat.lt_or_ge n 16 with n16 | n16
  · have l1 : nI n < 16 := nI_lt (b := 16) n16 (by omega)
    have l2 : ¬ (16 : Int32) ≤ nI n := nI_ge (b := 16) n16 (by omega)
    have vo : vp_in (nI (t * 16 + n)) 64 := vp_in_nI (by omega) (by omega)
    have co := dl_c (show t * 16 + n < 2 ^ 31 by omega)
    refine ⟨q + 1, va, upd ov (t * 16 + n) (va b), upd oc t (nI (n + 1)), by omega, fun c hc => ?_, fun post z => ?_, fun post z => ?_⟩
    · by_cases e : c = t
      · subst e
        rw [pk_us]
        exact ⟨n + 1, by omega, rfl⟩
      · rw [pk_un e]
        exact ho c hc
    · unfold wpX_step
      refine nm_r (dl_m4 q) ⟨v0, nm_r (e' := 12) (by rw [c0]; exact p0.trans k) ⟨v1, nm_r (e' := nI t) (by rw [c1]; exact p1.trans ea) ⟨v2, nm_r (e' := nI b) (by rw [c2]; exact p2.trans eb) ⟨v3, nm_e (br_f (by decide) (br_f (by decide) (br_f (by decide) (br_f (by decide) (br_f (by decide) (br_f (by decide) (br_t rfl ⟨vb2, ?_⟩)))))))⟩⟩⟩⟩
      unfold wpX_append
      refine ⟨vt, nm_r (e' := nI n) (by rw [ct]; exact en) (br_t l1 ?_)⟩
      rw [dl_m16, co, ct, cb, nI_1]
      exact ⟨vo, nm_e ⟨vt, nm_e (nm_r (nI_1 q) z)⟩⟩
    · unfold wpY_exec
      refine ⟨vq, nm_r (e' := 12) (by rw [cq]; exact k) ⟨vq, nm_r (e' := nI t) (by rw [cq]; exact ea) ⟨vq, nm_r (e' := nI b) (by rw [cq]; exact eb) ⟨vq, nm_e (nm_r (nI_1 q) (br_f (by decide) (br_f (by decide) (br_f (by decide) (br_f (by decide) (br_f (by decide) (br_f (by decide) (br_f (by decide) (br_f (by decide) (br_t rfl ⟨vt, ?_⟩))))))))))⟩⟩⟩⟩
      rw [ct, cb, en, dl_m16, co, nI_1]
      exact br_f l2 ⟨vt, vb2, vo, nm_e ⟨vt, vt, nm_e z⟩⟩
  · have l1 : ¬ nI n < 16 := nI_nlt (b := 16) n16 (by omega)
    have l2 : (16 : Int32) ≤ nI n := nI_le (a := 16) n16 (by omega)
    refine ⟨q + 1, va, ov, oc, by omega, ho, fun post z => ?_, fun post z => ?_⟩
    · unfold wpX_step
      refine nm_r (dl_m4 q) ⟨v0, nm_r (e' := 12) (by rw [c0]; exact p0.trans k) ⟨v1, nm_r (e' := nI t) (by rw [c1]; exact p1.trans ea) ⟨v2, nm_r (e' := nI b) (by rw [c2]; exact p2.trans eb) ⟨v3, nm_e (br_f (by decide) (br_f (by decide) (br_f (by decide) (br_f (by decide) (br_f (by decide) (br_f (by decide) (br_t rfl ⟨vb2, ?_⟩)))))))⟩⟩⟩⟩
      unfold wpX_append
      exact ⟨vt, nm_r (e' := nI n) (by rw [ct]; exact en) (br_f l1 (nm_r (nI_1 q) z))⟩
    · unfold wpY_exec
      refine ⟨vq, nm_r (e' := 12) (by rw [cq]; exact k) ⟨vq, nm_r (e' := nI t) (by rw [cq]; exact ea) ⟨vq, nm_r (e' := nI b) (by rw [cq]; exact eb) ⟨vq, nm_e (nm_r (nI_1 q) (br_f (by decide) (br_f (by decide) (br_f (by decide) (br_f (by decide) (br_f (by decide) (br_f (by decide) (br_f (by decide) (br_f (by decide) (br_t rfl ⟨vt, ?_⟩))))))))))⟩⟩⟩⟩
      rw [ct, en]
      exact br_t l2 z
theorem dl_h8 {P C L q : Nat} (hL : L ≤ 64) (hq : q < L) (ho : ∀ c, c < 4 → ∃ n, n ≤ 16 ∧ oc c = nI n) (hp : dl_P L st sk sa sb sc) (hj : ∀ q, q < L → dl_ct (sk q) → jm q = dl_tg sk L q) (k : sk q = 8) (va' : dl_v (sa q)) : dl_H P C L q xA xO xS xK yD dA aA po st jm pl op el so ip va ov oc ed cl sk sa sb sc jl pc sv bk be := by
  obtain ⟨p0, p1, p2, p3, _⟩ := hp q hq
  obtain ⟨v0, c0⟩ := dl_s0 (show q < 64 by omega)
  obtain ⟨v1, c1⟩ := dl_s1 (show q < 64 by omega)
  obtain ⟨v2, c2⟩ := dl_s2 (show q < 64 by omega)
  obtain ⟨v3, c3⟩ := dl_s3 (show q < 64 by omega)
  have vq : vp_in (nI q) 64 := vp_in_nI (by omega) (by omega)
  have cq := dl_c (show q < 2 ^ 31 by omega)
  obtain ⟨t, ht, ea⟩ := va'
  have ct := dl_c (show t < 2 ^ 31 by omega)
  by_cases g : va t = 0
  · obtain ⟨q', hq', e⟩ := dl_tg_r sk hq (show L < 2 ^ 31 by omega)
    have ej := (hj q hq (Or.inl k)).trans e
    have et : dl_if sk L q = nI q' := (show dl_tg sk L q = dl_if sk L q from (if_pos k)).symm.trans e
    refine ⟨q', va, ov, oc, hq', ho, fun post z => ?_, fun post z => ?_⟩
    · unfold wpX_step
      refine nm_r (dl_m4 q) ⟨v0, nm_r (e' := 8) (by rw [c0]; exact p0.trans k) ⟨v1, nm_r (e' := nI t) (by rw [c1]; exact p1.trans ea) ⟨v2, nm_e ⟨v3, nm_e (br_f (by decide) (br_f (by decide) (br_t rfl (?_))))⟩⟩⟩⟩
      unfold wX_step_80
      rw [ct, cq]
      exact ⟨vp_in_nI ht (by omega), br_t g ⟨vq, nm_r ej z⟩⟩
    · unfold wpY_exec
      refine ⟨vq, nm_r (e' := 8) (by rw [cq]; exact k) ⟨vq, nm_r (e' := nI t) (by rw [cq]; exact ea) ⟨vq, nm_e ⟨vq, nm_e (nm_r (nI_1 q) (br_f (by decide) (br_f (by decide) (br_f (by decide) (br_f (by decide) (br_f (by decide) (br_f (by decide) (br_f (by decide) (br_f (by decide) (br_f (by decide) (br_t rfl ⟨vp_in_nI ht (by omega), ?_⟩)))))))))))⟩⟩⟩⟩
      rw [ct]
      refine br_t g (dy_sf (we := true) hL hq ⟨fun y => absurd y (by decide), fun y => absurd y (by decide)⟩ ?_)
      rw [← et] at z
      unfold dl_if at z
      refine br_c (fun y => ?_) (fun y => ?_)
      · rw [if_neg (Int32.not_le.mpr y)] at z
        exact dy_after hL hq z
      · rw [if_pos (Int32.not_lt.mp y)] at z
        exact nm_e z
  · refine ⟨q + 1, va, ov, oc, by omega, ho, fun post z => ?_, fun post z => ?_⟩
    · unfold wpX_step
      refine nm_r (dl_m4 q) ⟨v0, nm_r (e' := 8) (by rw [c0]; exact p0.trans k) ⟨v1, nm_r (e' := nI t) (by rw [c1]; exact p1.trans ea) ⟨v2, nm_e ⟨v3, nm_e (br_f (by decide) (br_f (by decide) (br_t rfl (?_))))⟩⟩⟩⟩
      unfold wX_step_80
      rw [ct]
      exact ⟨vp_in_nI ht (by omega), br_f g (nm_r (nI_1 q) z)⟩
    · unfold wpY_exec
      refine ⟨vq, nm_r (e' := 8) (by rw [cq]; exact k) ⟨vq, nm_r (e' := nI t) (by rw [cq]; exact ea) ⟨vq, nm_e ⟨vq, nm_e (nm_r (nI_1 q) (br_f (by decide) (br_f (by decide) (br_f (by decide) (br_f (by decide) (br_f (by decide) (br_f (by decide) (br_f (by decide) (br_f (by decide) (br_f (by decide) (br_t rfl ⟨vp_in_nI ht (by omega), ?_⟩)))))))))))⟩⟩⟩⟩
      rw [ct]
      exact br_f g z
theorem dl_h11 {P C L q : Nat} (hL : L ≤ 64) (hq : q < L) (ho : ∀ c, c < 4 → ∃ n, n ≤ 16 ∧ oc c = nI n) (hp : dl_P L st sk sa sb sc) (hj : ∀ q, q < L → dl_ct (sk q) → jm q = dl_tg sk L q) (k : sk q = 11) (va' : dl_v (sa q)) : dl_H P C L q xA xO xS xK yD dA aA po st jm pl op el so ip va ov oc ed cl sk sa sb sc jl pc sv bk be := by
  obtain ⟨p0, p1, p2, p3, _⟩ := hp q hq
  obtain ⟨v0, c0⟩ := dl_s0 (show q < 64 by omega)
  obtain ⟨v1, c1⟩ := dl_s1 (show q < 64 by omega)
  obtain ⟨v2, c2⟩ := dl_s2 (show q < 64 by omega)
  obtain ⟨v3, c3⟩ := dl_s3 (show q < 64 by omega)
  have vq : vp_in (nI q) 64 := vp_in_nI (by omega) (by omega)
  have cq := dl_c (show q < 2 ^ 31 by omega)
  obtain ⟨t, ht, ea⟩ := va'
  have ct := dl_c (show t < 2 ^ 31 by omega)
  by_cases g : va t = 0
  · obtain ⟨q', hq', e⟩ := dl_tg_r sk hq (show L < 2 ^ 31 by omega)
    have ej := (hj q hq (Or.inr (Or.inr (Or.inr k)))).trans e
    have et : dl_af sk L q = nI q' := (show dl_tg sk L q = dl_af sk L q from ((if_neg (by rw [k]; decide)).trans (if_neg (by rw [k]; decide)))).symm.trans e
    refine ⟨q', va, ov, oc, hq', ho, fun post z => ?_, fun post z => ?_⟩
    · unfold wpX_step
      refine nm_r (dl_m4 q) ⟨v0, nm_r (e' := 11) (by rw [c0]; exact p0.trans k) ⟨v1, nm_r (e' := nI t) (by rw [c1]; exact p1.trans ea) ⟨v2, nm_e ⟨v3, nm_e (br_f (by decide) (br_f (by decide) (br_f (by decide) (br_f (by decide) (br_f (by decide) (br_t rfl (?_)))))))⟩⟩⟩⟩
      unfold wX_step_80
      rw [ct, cq]
      exact ⟨vp_in_nI ht (by omega), br_t g ⟨vq, nm_r ej z⟩⟩
    · unfold wpY_exec
      refine ⟨vq, nm_r (e' := 11) (by rw [cq]; exact k) ⟨vq, nm_r (e' := nI t) (by rw [cq]; exact ea) ⟨vq, nm_e ⟨vq, nm_e (nm_r (nI_1 q) (br_f (by decide) (br_f (by decide) (br_f (by decide) (br_f (by decide) (br_f (by decide) (br_f (by decide) (br_f (by decide) (br_f (by decide) (br_f (by decide) (br_f (by decide) (br_t rfl ⟨vp_in_nI ht (by omega), ?_⟩))))))))))))⟩⟩⟩⟩
      rw [ct]
      rw [← et] at z
      exact br_t g (dy_after hL hq z)
  · refine ⟨q + 1, va, ov, oc, by omega, ho, fun post z => ?_, fun post z => ?_⟩
    · unfold wpX_step
      refine nm_r (dl_m4 q) ⟨v0, nm_r (e' := 11) (by rw [c0]; exact p0.trans k) ⟨v1, nm_r (e' := nI t) (by rw [c1]; exact p1.trans ea) ⟨v2, nm_e ⟨v3, nm_e (br_f (by decide) (br_f (by decide) (br_f (by decide) (br_f (by decide) (br_f (by decide) (br_t rfl (?_)))))))⟩⟩⟩⟩
      unfold wX_step_80
      rw [ct]
      exact ⟨vp_in_nI ht (by omega), br_f g (nm_r (nI_1 q) z)⟩
    · unfold wpY_exec
      refine ⟨vq, nm_r (e' := 11) (by rw [cq]; exact k) ⟨vq, nm_r (e' := nI t) (by rw [cq]; exact ea) ⟨vq, nm_e ⟨vq, nm_e (nm_r (nI_1 q) (br_f (by decide) (br_f (by decide) (br_f (by decide) (br_f (by decide) (br_f (by decide) (br_f (by decide) (br_f (by decide) (br_f (by decide) (br_f (by decide) (br_f (by decide) (br_t rfl ⟨vp_in_nI ht (by omega), ?_⟩))))))))))))⟩⟩⟩⟩
      rw [ct]
      exact br_f g z
theorem dl_h9 {P C L q : Nat} (hL : L ≤ 64) (hq : q < L) (ho : ∀ c, c < 4 → ∃ n, n ≤ 16 ∧ oc c = nI n) (hp : dl_P L st sk sa sb sc) (hj : ∀ q, q < L → dl_ct (sk q) → jm q = dl_tg sk L q) (k : sk q = 9) : dl_H P C L q xA xO xS xK yD dA aA po st jm pl op el so ip va ov oc ed cl sk sa sb sc jl pc sv bk be := by
  obtain ⟨p0, p1, p2, p3, _⟩ := hp q hq
  obtain ⟨v0, c0⟩ := dl_s0 (show q < 64 by omega)
  obtain ⟨v1, c1⟩ := dl_s1 (show q < 64 by omega)
  obtain ⟨v2, c2⟩ := dl_s2 (show q < 64 by omega)
  obtain ⟨v3, c3⟩ := dl_s3 (show q < 64 by omega)
  have vq : vp_in (nI q) 64 := vp_in_nI (by omega) (by omega)
  have cq := dl_c (show q < 2 ^ 31 by omega)
  obtain ⟨q', hq', e⟩ := dl_tg_r sk hq (show L < 2 ^ 31 by omega)
  have ej := (hj q hq (Or.inr (Or.inl k))).trans e
  have et : dl_af sk L q = nI q' := (show dl_tg sk L q = dl_af sk L q from ((if_neg (by rw [k]; decide)).trans (if_neg (by rw [k]; decide)))).symm.trans e
  refine ⟨q', va, ov, oc, hq', ho, fun post z => ?_, fun post z => ?_⟩
  · unfold wpX_step
    refine nm_r (dl_m4 q) ⟨v0, nm_r (e' := 9) (by rw [c0]; exact p0.trans k) ⟨v1, nm_e ⟨v2, nm_e ⟨v3, nm_e (br_f (by decide) (br_f (by decide) (br_f (by decide) (br_t rfl (?_)))))⟩⟩⟩⟩
    unfold wX_step_114
    rw [cq]
    exact ⟨vq, nm_r ej z⟩
  · unfold wpY_exec
    rw [← et] at z
    exact ⟨vq, nm_r (e' := 9) (by rw [cq]; exact k) ⟨vq, nm_e ⟨vq, nm_e ⟨vq, nm_e (nm_r (nI_1 q) (br_f (by decide) (br_f (by decide) (br_f (by decide) (br_f (by decide) (br_f (by decide) (br_f (by decide) (br_f (by decide) (br_f (by decide) (br_f (by decide) (br_f (by decide) (br_f (by decide) (br_t rfl (dy_after hL hq z))))))))))))))⟩⟩⟩⟩
theorem dl_h10 {P C L q : Nat} (hL : L ≤ 64) (hq : q < L) (ho : ∀ c, c < 4 → ∃ n, n ≤ 16 ∧ oc c = nI n) (hp : dl_P L st sk sa sb sc) (hj : ∀ q, q < L → dl_ct (sk q) → jm q = dl_tg sk L q) (k : sk q = 10) : dl_H P C L q xA xO xS xK yD dA aA po st jm pl op el so ip va ov oc ed cl sk sa sb sc jl pc sv bk be := by
  obtain ⟨p0, p1, p2, p3, _⟩ := hp q hq
  obtain ⟨v0, c0⟩ := dl_s0 (show q < 64 by omega)
  obtain ⟨v1, c1⟩ := dl_s1 (show q < 64 by omega)
  obtain ⟨v2, c2⟩ := dl_s2 (show q < 64 by omega)
  obtain ⟨v3, c3⟩ := dl_s3 (show q < 64 by omega)
  have vq : vp_in (nI q) 64 := vp_in_nI (by omega) (by omega)
  have cq := dl_c (show q < 2 ^ 31 by omega)
  obtain ⟨q', hq', e⟩ := dl_tg_r sk hq (show L < 2 ^ 31 by omega)
  have ej := (hj q hq (Or.inr (Or.inr (Or.inl k)))).trans e
  have et : dl_en sk q = nI q' := (show dl_tg sk L q = dl_en sk q from ((if_neg (by rw [k]; decide)).trans (if_pos k))).symm.trans e
  refine ⟨q', va, ov, oc, hq', ho, fun post z => ?_, fun post z => ?_⟩
  · unfold wpX_step
    refine nm_r (dl_m4 q) ⟨v0, nm_r (e' := 10) (by rw [c0]; exact p0.trans k) ⟨v1, nm_e ⟨v2, nm_e ⟨v3, nm_e (br_f (by decide) (br_f (by decide) (br_f (by decide) (br_f (by decide) (br_t rfl (?_))))))⟩⟩⟩⟩
    unfold wX_step_114
    rw [cq]
    exact ⟨vq, nm_r ej z⟩
  · unfold wpY_exec
    rw [← et] at z
    refine ⟨vq, nm_r (e' := 10) (by rw [cq]; exact k) ⟨vq, nm_e ⟨vq, nm_e ⟨vq, nm_e (nm_r (nI_1 q) (br_f (by decide) (br_f (by decide) (br_f (by decide) (br_f (by decide) (br_f (by decide) (br_f (by decide) (br_f (by decide) (br_f (by decide) (br_f (by decide) (br_f (by decide) (br_f (by decide) (br_f (by decide) (br_t rfl (dy_back (by omega) ?_)))))))))))))))⟩⟩⟩⟩
    unfold dl_en at z
    refine br_c (fun y => ?_) (fun y => ?_)
    · rw [if_neg (fun u => absurd y (Int32.not_lt.mpr u.1))] at z
      exact z
    · rcases dl_sb_r sk q 0 with u | ⟨r, hr, u⟩
      · rw [u] at y
        exact absurd (by decide) y
      · rw [u] at z y ⊢
        rw [dl_c (show r < 2 ^ 31 by omega)] at z ⊢
        refine ⟨vp_in_nI (by omega) (by omega), br_c (fun s => ?_) (fun s => ?_)⟩
        · rw [if_pos ⟨nI_pos' (by omega), s⟩] at z
          exact z
        · rw [if_neg (fun v => s v.2)] at z
          exact z
theorem dl_h {P C L q : Nat} (hL : L ≤ 64) (hq : q < L) (ho : ∀ c, c < 4 → ∃ n, n ≤ 16 ∧ oc c = nI n) (hp : dl_P L st sk sa sb sc) (hj : ∀ q, q < L → dl_ct (sk q) → jm q = dl_tg sk L q) : dl_H P C L q xA xO xS xK yD dA aA po st jm pl op el so ip va ov oc ed cl sk sa sb sc jl pc sv bk be := by
  obtain ⟨p0, p1, p2, p3, p4⟩ := hp q hq
  rcases p4 with ⟨k, a⟩ | ⟨k, a, b⟩ | ⟨k, a, b⟩ | ⟨k, a, b, c⟩ | ⟨k, a⟩ | k | k | ⟨k, a, b⟩
  · exact dl_h1 hL hq ho hp k a
  · exact dl_h2 hL hq ho hp k a b
  · exact dl_h13 hL hq ho hp k a b
  · rcases k with k | k | k | k | k
    · exact dl_h3 hL hq ho hp k a b c
    · exact dl_h4 hL hq ho hp k a b c
    · exact dl_h5 hL hq ho hp k a b c
    · exact dl_h6 hL hq ho hp k a b c
    · exact dl_h7 hL hq ho hp k a b c
  · rcases k with k | k
    · exact dl_h8 hL hq ho hp hj k a
    · exact dl_h11 hL hq ho hp hj k a
  · exact dl_h9 hL hq ho hp hj k
  · exact dl_h10 hL hq ho hp hj k
  · exact dl_h12 hL hq ho hp k a b
/-- a whole call of run, both sides -/
theorem dl_run {P C L m : Nat} (hL : L ≤ 64) (hm : m ≤ 1000) (hp : dl_P L st sk sa sb sc) (hj : ∀ q, q < L → dl_ct (sk q) → jm q = dl_tg sk L q) : ∀ (d t q : Nat) (va ov oc : Nat → Int32), t + d = m → q ≤ L → (∀ c, c < 4 → ∃ n, n ≤ 16 ∧ oc c = nI n) → ∃ (s : Int32) (q' : Nat) (va' ov' oc' : Nat → Int32), ¬ s = 0 ∧ q' ≤ L ∧ (∀ c, c < 4 → ∃ n, n ≤ 16 ∧ oc' c = nI n) ∧ (∀ post : Int32 → SX → Prop, post s (nI P, nI C, xA, nI L, xO, nI q', s, xK, dA, aA, po, st, jm, pl, op, el, so, ip, va', ov', oc') → wX_run_24 post (nI m) (d + 1) (nI t) (nI P) (nI C) xA (nI L) xO (nI q) 2 xK dA aA po st jm pl op el so ip va ov oc) ∧ (∀ post : Int32 → SY → Prop, post s (nI P, nI C, xA, nI L, nI q', s, xK, yD, ed, cl, po, sk, sa, sb, sc, ip, va', ov', oc', jl, pc, sv, bk, be) → wY_run_39 post (nI m) (d + 1) (nI t) (nI P) (nI C) xA (nI L) (nI q) 2 xK yD ed cl po sk sa sb sc ip va ov oc jl pc sv bk be) := by
  intro d
  induction d with
  | zero =>
    intro t q va ov oc hd hq ho
    have e : t = m := by omega
    subst e
    have le : nI t ≤ nI t := nI_le (Nat.le_refl _) (by omega)
    have nl : ¬ nI t < nI t := nI_nlt (Nat.le_refl _) (by omega)
    rcases Nat.lt_or_ge q L with h | h
    · exact ⟨2, q, va, ov, oc, by decide, hq, ho, fun post z => br_t le (br_t (nI_lt h (by omega)) z), fun post z => br_f nl (br_f (nI_ge h (by omega)) (br_t (nI_pos' (by omega)) (br_t rfl z)))⟩
    · exact ⟨3, q, va, ov, oc, by decide, hq, ho, fun post z => br_t le (br_f (nI_nlt h (by omega)) z), fun post z => br_f nl (br_t (nI_le h (by omega)) z)⟩
  | succ d ih =>
    intro t q va ov oc hd hq ho
    have ge : ¬ nI m ≤ nI t := nI_ge (by omega) (by omega)
    have nl : ¬ nI m < nI t := nI_nlt (by omega) (by omega)
    rcases Nat.lt_or_ge q L with h | h
    · obtain ⟨q1, va1, ov1, oc1, a1, a2, a3, a4⟩ := dl_h (P := P) (C := C) (xA := xA) (xO := xO) (xS := 2) (xK := xK) (yD := yD) (dA := dA) (aA := aA) (po := po) (jm := jm) (pl := pl) (op := op) (el := el) (so := so) (ip := ip) (va := va) (ov := ov) (ed := ed) (cl := cl) (jl := jl) (pc := pc) (sv := sv) (bk := bk) (be := be) hL h ho hp hj
      obtain ⟨s, q2, va2, ov2, oc2, b1, b2, b3, b4, b5⟩ := ih (t + 1) q1 va1 ov1 oc1 (by omega) a1 a2
      exact ⟨s, q2, va2, ov2, oc2, b1, b2, b3, fun post z => br_f ge (br_f (nI_ge h (by omega)) (a3 _ (nm_r (nI_1 t) (b4 post z)))), fun post z => br_f nl (br_f (nI_ge h (by omega)) (br_t (nI_pos' (by omega)) (br_f (fun w => absurd ((nI_eq (by omega) (by omega)).mp w) (by omega)) (a4 _ (nm_r (nI_1 t) (b5 post z))))))⟩
    · exact ⟨3, q, va, ov, oc, by decide, hq, ho, fun post z => br_f ge (br_t (nI_le h (by omega)) (br_f (nI_nlt h (by omega)) z)), fun post z => br_f nl (br_t (nI_le h (by omega)) z)⟩
end
