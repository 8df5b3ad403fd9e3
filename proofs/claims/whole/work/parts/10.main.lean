/-! the relation, and the small methods -/
section
variable {xP xC xA xL xO xQ xS xK yP yC yA yL yQ yS yK yD : Int32} {dA aA po st jm pl op el so ip va ov oc ed cl py sk sa sb sc yi yv yo yn jl pc sv bk be : Nat → Int32}
def dl_Q (P C L q : Nat) (xS : Int32) (dA aA st jm oc ed sk sa sb sc : Nat → Int32) : Prop := (2 ≤ P ∧ P ≤ 8) ∧ (L ≤ C ∧ C ≤ 64) ∧ q ≤ L ∧ (∀ p, p < P → ∀ a, bt (dA p) a = true → a < P) ∧ dl_A P dA aA ∧ (∀ i j, i < P → j < P → (¬ ed (i * 8 + j) = 0 ↔ dl_E dA i j)) ∧ dl_P L st sk sa sb sc ∧ (∀ c, c < 4 → ∃ n, n ≤ 16 ∧ oc c = nI n) ∧ (¬ xS = 0 → ∀ q, q < L → dl_ct (sk q) → jm q = dl_tg sk L q)
def i_Rel (_ : Nat) (u : SX) (v : SY) : Prop := match u with
  | (xP, xC, xA, xL, xO, xQ, xS, xK, dA, aA, po, st, jm, pl, op, el, so, ip, va, ov, oc) => match v with
    | (yP, yC, yA, yL, yQ, yS, yK, yD, ed, cl, py, sk, sa, sb, sc, yi, yv, yo, yn, jl, pc, sv, bk, be) => ∃ P C L q : Nat, xP = nI P ∧ yP = nI P ∧ xC = nI C ∧ yC = nI C ∧ xL = nI L ∧ yL = nI L ∧ xQ = nI q ∧ yQ = nI q ∧ xA = yA ∧ xS = yS ∧ xK = yK ∧ po = py ∧ ip = yi ∧ va = yv ∧ ov = yo ∧ oc = yn ∧ dl_Q P C L q xS dA aA st jm oc ed sk sa sb sc
theorem i_up {k : Nat} {u : SX} {v : SY} (h : i_Rel k u v) : i_Rel (k + 5) u v := h
theorem dl_mk {k P C L q : Nat} (Q : dl_Q P C L q xS dA aA st jm oc ed sk sa sb sc) : i_Rel k (nI P, nI C, xA, nI L, xO, nI q, xS, xK, dA, aA, po, st, jm, pl, op, el, so, ip, va, ov, oc) (nI P, nI C, xA, nI L, nI q, xS, xK, yD, ed, cl, po, sk, sa, sb, sc, ip, va, ov, oc, jl, pc, sv, bk, be) := ⟨P, C, L, q, rfl, rfl, rfl, rfl, rfl, rfl, rfl, rfl, rfl, rfl, rfl, rfl, rfl, rfl, rfl, rfl, Q⟩
theorem dl_zn4 (f : Nat → Int32) : ∀ c, c < 4 → ∃ n, n ≤ 16 ∧ dl_zn f 4 c = nI n := by
  intro c hc
  refine ⟨0, by omega, ?_⟩
  have e : c = 0 ∨ c = 1 ∨ c = 2 ∨ c = 3 := by omega
  rcases e with e | e | e | e <;> subst e <;> rfl
theorem dl_Qr {P C L q : Nat} (Q : dl_Q P C L q xS dA aA st jm oc ed sk sa sb sc) : dl_Q P C L 0 0 dA aA st jm (dl_zn oc 4) ed sk sa sb sc := ⟨Q.1, Q.2.1, Nat.zero_le _, Q.2.2.2.1, Q.2.2.2.2.1, Q.2.2.2.2.2.1, Q.2.2.2.2.2.2.1, dl_zn4 oc, fun z => absurd rfl z⟩
theorem dl_mkr {k P C L : Nat} (Q : dl_Q P C L 0 0 dA aA st jm (dl_zn oc 4) ed sk sa sb sc) : i_Rel k (nI P, nI C, xA, nI L, xO, 0, 0, -1, dA, aA, po, st, jm, pl, op, el, so, ip, va, ov, dl_zn oc 4) (nI P, nI C, xA, nI L, 0, 0, -1, yD, ed, cl, po, sk, sa, sb, sc, ip, va, ov, dl_zn oc 4, jl, pc, sv, bk, be) := dl_mk (q := 0) (xS := 0) (oc := dl_zn oc 4) Q
/-! ranges -/
theorem dl_rg (x : Int32) {n : Nat} (hn : n < 2 ^ 31) : (x < 0 ∨ (¬ x < 0 ∧ nI n ≤ x)) ∨ ∃ j : Nat, j < n ∧ x = nI j := by
  by_cases h : x < 0
  · exact Or.inl (Or.inl h)
  · rcases pk_ix x hn with z | z | z
    · exact absurd z h
    · exact Or.inl (Or.inr ⟨h, z⟩)
    · exact Or.inr z
theorem dx_isP1 {post : Int32 → Prop} {P j : Nat} (hP : P ≤ 8) (hj : j < P) (h : post 1) : wpX_isPrincipal post (nI P, xC, xA, xL, xO, xQ, xS, xK, dA, aA, po, st, jm, pl, op, el, so, ip, va, ov, oc) (nI j) := by
  unfold wpX_isPrincipal
  exact br_f (nI_pos (by omega)) (br_f (nI_ge hj (by omega)) h)
theorem dx_isP0 {post : Int32 → Prop} {P : Nat} {x : Int32} (b : x < 0 ∨ (¬ x < 0 ∧ nI P ≤ x)) (h : post 0) : wpX_isPrincipal post (nI P, xC, xA, xL, xO, xQ, xS, xK, dA, aA, po, st, jm, pl, op, el, so, ip, va, ov, oc) x := by
  unfold wpX_isPrincipal
  rcases b with b | b
  · exact br_t b h
  · exact br_f b.1 (br_t b.2 h)
theorem dy_isP1 {post : Int32 → Prop} {P j : Nat} (hP : P ≤ 8) (hj : j < P) (h : post 1) : wpY_isP post (nI P, yC, yA, yL, yQ, yS, yK, yD, ed, cl, py, sk, sa, sb, sc, yi, yv, yo, yn, jl, pc, sv, bk, be) (nI j) := by
  unfold wpY_isP
  exact br_f (nI_pos (by omega)) (br_f (nI_ge hj (by omega)) h)
theorem dy_isP0 {post : Int32 → Prop} {P : Nat} {x : Int32} (b : x < 0 ∨ (¬ x < 0 ∧ nI P ≤ x)) (h : post 0) : wpY_isP post (nI P, yC, yA, yL, yQ, yS, yK, yD, ed, cl, py, sk, sa, sb, sc, yi, yv, yo, yn, jl, pc, sv, bk, be) x := by
  unfold wpY_isP
  rcases b with b | b
  · exact br_t b h
  · exact br_f b.1 (br_t b.2 h)
theorem dx_isTarget1 {post : Int32 → Prop} {j : Nat} (hj : j < 20) (h : post 1) : wpX_isTarget post (nI j) := by
  unfold wpX_isTarget
  exact br_f (nI_pos (by omega)) (br_f (nI_ge (b := 20) hj (by omega)) h)
theorem dx_isTarget0 {post : Int32 → Prop} {x : Int32} (b : x < 0 ∨ (¬ x < 0 ∧ nI 20 ≤ x)) (h : post 0) : wpX_isTarget post x := by
  unfold wpX_isTarget
  rcases b with b | b
  · exact br_t b h
  · exact br_f b.1 (br_t b.2 h)
theorem dx_isVariable1 {post : Int32 → Prop} {j : Nat} (hj : j < 16) (h : post 1) : wpX_isVariable post (nI j) := by
  unfold wpX_isVariable
  exact br_f (nI_pos (by omega)) (br_f (nI_ge (b := 16) hj (by omega)) h)
theorem dx_isVariable0 {post : Int32 → Prop} {x : Int32} (b : x < 0 ∨ (¬ x < 0 ∧ nI 16 ≤ x)) (h : post 0) : wpX_isVariable post x := by
  unfold wpX_isVariable
  rcases b with b | b
  · exact br_t b h
  · exact br_f b.1 (br_t b.2 h)
theorem dx_isChannel1 {post : Int32 → Prop} {j : Nat} (hj : j < 4) (h : post 1) : wpX_isChannel post (nI j) := by
  unfold wpX_isChannel
  exact br_f (nI_pos (by omega)) (br_f (nI_ge (b := 4) hj (by omega)) h)
theorem dx_isChannel0 {post : Int32 → Prop} {x : Int32} (b : x < 0 ∨ (¬ x < 0 ∧ nI 4 ≤ x)) (h : post 0) : wpX_isChannel post x := by
  unfold wpX_isChannel
  rcases b with b | b
  · exact br_t b h
  · exact br_f b.1 (br_t b.2 h)
theorem dy_isVar1 {post : Int32 → Prop} {j : Nat} (hj : j < 16) (h : post 1) : wpY_isVar post (yP, yC, yA, yL, yQ, yS, yK, yD, ed, cl, py, sk, sa, sb, sc, yi, yv, yo, yn, jl, pc, sv, bk, be) (nI j) := by
  unfold wpY_isVar
  exact br_f (nI_pos (by omega)) (br_f (nI_ge (b := 16) hj (by omega)) h)
theorem dy_isVar0 {post : Int32 → Prop} {x : Int32} (b : x < 0 ∨ (¬ x < 0 ∧ nI 16 ≤ x)) (h : post 0) : wpY_isVar post (yP, yC, yA, yL, yQ, yS, yK, yD, ed, cl, py, sk, sa, sb, sc, yi, yv, yo, yn, jl, pc, sv, bk, be) x := by
  unfold wpY_isVar
  rcases b with b | b
  · exact br_t b h
  · exact br_f b.1 (br_t b.2 h)
/-! the mask of all principals -/
theorem dl_sh : ∀ P, P ≤ 8 → ((1 : Int32) <<< (nI P &&& 31)) = nI (2 ^ P) := by
  intro P hP
  exact (by decide +kernel : ∀ P : Fin 9, ((1 : Int32) <<< (nI P.val &&& 31)) = nI (2 ^ P.val)) ⟨P, by omega⟩
theorem dl_2P {P : Nat} (hP : P ≤ 8) : 2 ^ P < 2 ^ 31 := Nat.pow_lt_pow_right (by decide) (by omega)
theorem dl_m1lt {n : Nat} (h : n < 2 ^ 31) : (-1 : Int32) < nI n := by
  rw [Int32.lt_iff_toInt_lt, nI_toInt h]
  have e1 : (-1 : Int32).toInt = -1 := by decide
  omega
theorem dx_isPS0a {post : Int32 → Prop} {P : Nat} {x : Int32} (b : x < 0) (h : post 0) : wpX_isPrincipalSet post (nI P, xC, xA, xL, xO, xQ, xS, xK, dA, aA, po, st, jm, pl, op, el, so, ip, va, ov, oc) x := by
  unfold wpX_isPrincipalSet
  exact br_t b h
theorem dx_isPS0b {post : Int32 → Prop} {P : Nat} {x : Int32} (hP : P ≤ 8) (a : ¬ x < 0) (b : nI (2 ^ P) ≤ x) (h : post 0) : wpX_isPrincipalSet post (nI P, xC, xA, xL, xO, xQ, xS, xK, dA, aA, po, st, jm, pl, op, el, so, ip, va, ov, oc) x := by
  have sh := dl_sh P hP
  unfold wpX_isPrincipalSet
  dsimp only
  rw [sh]
  exact br_f a (br_t b h)
theorem dx_isPS1 {post : Int32 → Prop} {P : Nat} {x : Int32} (hP : P ≤ 8) (a : ¬ x < 0) (b : ¬ nI (2 ^ P) ≤ x) (h : post 1) : wpX_isPrincipalSet post (nI P, xC, xA, xL, xO, xQ, xS, xK, dA, aA, po, st, jm, pl, op, el, so, ip, va, ov, oc) x := by
  have sh := dl_sh P hP
  unfold wpX_isPrincipalSet
  dsimp only
  rw [sh]
  exact br_f a (br_f b h)
theorem dl_bon {d : Int32} {i x : Nat} (hi : i < 32) : bt (d ||| ((1 : Int32) <<< (nI i &&& 31))) x = true ↔ bt d x = true ∨ x = i := by
  rcases Nat.lt_or_ge x 32 with h | h
  · rw [b_or, dl_one hi h, Bool.or_eq_true, decide_eq_true_iff]
  · rw [b_big h, b_big h]
    exact ⟨fun z => absurd z (by decide), fun z => z.elim (fun y => absurd y (by decide)) (fun y => by omega)⟩
theorem dl_boff {d : Int32} {i x : Nat} (hi : i < 32) : bt (d &&& (((1 : Int32) <<< (nI i &&& 31)) ^^^ (-1))) x = true ↔ bt d x = true ∧ ¬ x = i := by
  rcases Nat.lt_or_ge x 32 with h | h
  · rw [b_and, b_xor, dl_one hi h, b_m1 x h, Bool.and_eq_true]
    by_cases e : x = i
    · rw [decide_eq_true e]
      exact ⟨fun z => absurd z.2 (by decide), fun z => absurd e z.2⟩
    · rw [decide_eq_false e]
      exact ⟨fun z => ⟨z.1, e⟩, fun z => ⟨z.1, by decide⟩⟩
  · rw [b_big h, b_big h]
    exact ⟨fun z => absurd z (by decide), fun z => absurd z.1 (by decide)⟩
theorem dl_edge {P i j : Nat} {D2 : Int32} {ez : Int32} (P8 : P ≤ 8) (hi : i < P) (hj : j < P) (hE : ∀ i j, i < P → j < P → (¬ ed (i * 8 + j) = 0 ↔ dl_E dA i j)) (h : ∀ x, bt D2 x = true ↔ (x = i ∧ ¬ ez = 0) ∨ (¬ x = i ∧ bt (dA j) x = true)) : ∀ x y, x < P → y < P → (¬ upd ed (i * 8 + j) ez (x * 8 + y) = 0 ↔ dl_E (upd dA j D2) x y) := by
  intro x y hx hy
  unfold dl_E
  by_cases e : y = j
  · subst e
    rw [pk_us, h x]
    by_cases f : x = i
    · subst f
      rw [pk_us]
      exact ⟨fun z => Or.inl ⟨rfl, z⟩, fun z => z.elim (fun u => u.2) (fun u => absurd rfl u.1)⟩
    · rw [pk_un (by omega), hE x y hx hy]
      exact ⟨fun z => Or.inr ⟨f, z⟩, fun z => z.elim (fun u => absurd u.1 f) (fun u => u.2)⟩
  · rw [pk_un (by omega), pk_un e]
    exact hE x y hx hy
theorem i_vc_setActsFor {k : Nat} {u : SX} {v : SY} (I : i_Rel k u v) (hk : k + 5 ≤ 2562) (v1 : Int32) (v2 : Int32) (v3 : Int32) : wpX_setActsFor (fun r u' => wpY_setActsFor (fun r' v' => r' = r ∧ i_Rel (k + 5) u' v') v v1 v2 (lw_bz v3)) u v1 v2 (lw_bz v3) := by
  have J := I
  obtain ⟨xP, xC, xA, xL, xO, xQ, xS, xK, dA, aA, po, st, jm, pl, op, el, so, ip, va, ov, oc⟩ := u
  obtain ⟨yP, yC, yA, yL, yQ, yS, yK, yD, ed, cl, py, sk, sa, sb, sc, yi, yv, yo, yn, jl, pc, sv, bk, be⟩ := v
  obtain ⟨P, C, L, q, rfl, rfl, rfl, rfl, rfl, rfl, rfl, rfl, rfl, rfl, rfl, rfl, rfl, rfl, rfl, rfl, Q⟩ := I
  obtain ⟨⟨P2, P8⟩, ⟨LC, C64⟩, qL, hD, hA, hE, hp, ho, hj⟩ := id Q
  rcases dl_rg v1 (n := P) (by omega) with b | ⟨i, hi, rfl⟩
  · unfold wpX_setActsFor
    refine dx_isP0 b (br_t rfl ?_)
    unfold wpY_setActsFor
    exact dy_isP0 b (br_t rfl ⟨rfl, J⟩)
  rcases dl_rg v2 (n := P) (by omega) with b | ⟨j, hj', rfl⟩
  · unfold wpX_setActsFor
    refine dx_isP1 P8 hi (br_f (by decide) (dx_isP0 b (br_t rfl ?_)))
    unfold wpY_setActsFor
    exact dy_isP1 P8 hi (br_f (by decide) (dy_isP0 b (br_t rfl ⟨rfl, J⟩)))
  by_cases e : i = j
  · subst e
    unfold wpX_setActsFor
    refine dx_isP1 P8 hi (br_f (by decide) (dx_isP1 P8 hi (br_f (by decide) (br_t rfl ?_))))
    unfold wpY_setActsFor
    exact dy_isP1 P8 hi (br_f (by decide) (dy_isP1 P8 hi (br_f (by decide) (br_t rfl ⟨rfl, J⟩))))
  have ne : ¬ nI i = nI j := fun z => e ((nI_eq (by omega) (by omega)).mp z)
  have vj : vp_in (nI j) 8 := vp_in_nI (by omega) (by omega)
  have cj := dl_c (show j < 2 ^ 31 by omega)
  have ve : vp_in (nI (i * 8 + j)) 64 := vp_in_nI (by omega) (by omega)
  have ce := dl_c (show i * 8 + j < 2 ^ 31 by omega)
  have fin : ∀ (D2 ez : Int32), (∀ x, bt D2 x = true ↔ (x = i ∧ ¬ ez = 0) ∨ (¬ x = i ∧ bt (dA j) x = true)) → vp_nar .boolean (lw_bz v3) = ez → wX_setActsFor_56 (fun r u' => wpY_setActsFor (fun r' v' => r' = r ∧ i_Rel (k + 5) u' v') (nI P, nI C, xA, nI L, nI q, xS, xK, yD, ed, cl, po, sk, sa, sb, sc, ip, va, ov, oc, jl, pc, sv, bk, be) (nI i) (nI j) (lw_bz v3)) (nI P) (nI C) xA (nI L) xO (nI q) xS xK (upd dA j D2) aA po st jm pl op el so ip va ov oc := by
    intro D2 ez hb hz
    unfold wX_setActsFor_56
    have hD2 : ∀ p, p < P → ∀ a, bt (upd dA j D2 p) a = true → a < P := by
      intro p hp a ha
      by_cases f : p = j
      · subst f
        rw [pk_us] at ha
        rcases (hb a).mp ha with z | z
        · omega
        · exact hD p hp a z.2
      · rw [pk_un f] at ha
        exact hD p hp a ha
    refine dx_close P8 hD2 (fun A' hA' => dx_reset ?_)
    unfold wpY_setActsFor
    refine dy_isP1 P8 hi (br_f (by decide) (dy_isP1 P8 hj' (br_f (by decide) (br_f ne ?_))))
    rw [dl_m8, ce, hz]
    exact ⟨ve, nm_e (dy_reset ⟨rfl, dl_mkr ⟨⟨P2, P8⟩, ⟨LC, C64⟩, Nat.zero_le _, hD2, hA', dl_edge P8 hi hj' hE hb, hp, dl_zn4 oc, fun z => absurd rfl z⟩⟩)⟩
  unfold wpX_setActsFor
  refine dx_isP1 P8 hi (br_f (by decide) (dx_isP1 P8 hj' (br_f (by decide) (br_f ne (br_c (fun z => ?_) (fun z => ?_))))))
  · rw [cj]
    refine ⟨vj, vj, nm_e (fin _ 0 (fun x => ?_) (by rw [z, dl_vb0]))⟩
    rw [dl_boff (by omega)]
    exact ⟨fun y => Or.inr ⟨y.2, y.1⟩, fun y => y.elim (fun u => absurd rfl u.2) (fun u => ⟨u.2, u.1⟩)⟩
  · rw [cj]
    refine ⟨vj, vj, nm_e (fin _ 1 (fun x => ?_) ?_)⟩
    · rw [dl_bon (by omega)]
      by_cases f : x = i
      · exact ⟨fun _ => Or.inl ⟨f, by decide⟩, fun _ => Or.inr f⟩
      · exact ⟨fun y => y.elim (fun u => Or.inr ⟨f, u⟩) (fun u => absurd u f), fun y => y.elim (fun u => absurd u.1 f) (fun u => Or.inl u.2)⟩
    · rcases lw_bz_01 v3 with y | y
      · exact absurd y z
      · rw [y, dl_vb1]
theorem i_vc_actsFor {k : Nat} {u : SX} {v : SY} (I : i_Rel k u v) (hk : k + 5 ≤ 2562) (v1 : Int32) (v2 : Int32) : wpX_actsFor (fun r => wpY_actsFor (fun r' v' => r' = r ∧ i_Rel (k + 5) u v') v v1 v2) u v1 v2 := by
  have J := I
  obtain ⟨xP, xC, xA, xL, xO, xQ, xS, xK, dA, aA, po, st, jm, pl, op, el, so, ip, va, ov, oc⟩ := u
  obtain ⟨yP, yC, yA, yL, yQ, yS, yK, yD, ed, cl, py, sk, sa, sb, sc, yi, yv, yo, yn, jl, pc, sv, bk, be⟩ := v
  obtain ⟨P, C, L, q, rfl, rfl, rfl, rfl, rfl, rfl, rfl, rfl, rfl, rfl, rfl, rfl, rfl, rfl, rfl, rfl, Q⟩ := I
  obtain ⟨⟨P2, P8⟩, ⟨LC, C64⟩, qL, hD, hA, hE, hp, ho, hj⟩ := id Q
  rcases dl_rg v1 (n := P) (by omega) with b | ⟨i, hi, rfl⟩
  · unfold wpX_actsFor
    refine dx_isP0 b (br_t rfl ?_)
    unfold wpY_actsFor
    exact dy_isP0 b (br_t rfl ⟨rfl, J⟩)
  rcases dl_rg v2 (n := P) (by omega) with b | ⟨j, hj', rfl⟩
  · unfold wpX_actsFor
    refine dx_isP1 P8 hi (br_f (by decide) (dx_isP0 b (br_t rfl ?_)))
    unfold wpY_actsFor
    exact dy_isP1 P8 hi (br_f (by decide) (dy_isP0 b (br_t rfl ⟨rfl, J⟩)))
  have fin : ∀ r : Int32, (r = 0 ∨ r = 1) → (¬ r = 0 ↔ bt (aA j) i = true) → wpY_actsFor (fun r' v' => r' = r ∧ i_Rel (k + 5) (nI P, nI C, xA, nI L, xO, nI q, xS, xK, dA, aA, po, st, jm, pl, op, el, so, ip, va, ov, oc) v') (nI P, nI C, xA, nI L, nI q, xS, xK, yD, ed, cl, po, sk, sa, sb, sc, ip, va, ov, oc, jl, pc, sv, bk, be) (nI i) (nI j) := by
    intro r h01 hr
    unfold wpY_actsFor
    refine dy_isP1 P8 hi (br_f (by decide) (dy_isP1 P8 hj' (br_f (by decide) (dy_close (by omega) P8 hE (fun C' hC => ?_)))))
    have ca := dl_CAof hA hC i j hi hj'
    have c01 := hC.1 (i * 8 + j) (by omega)
    have e : C' (i * 8 + j) = r := by
      rcases c01 with c | c <;> rcases h01 with d | d
      · rw [c, d]
      · exact absurd c (ca.mpr (hr.mp (by rw [d]; decide)))
      · exact absurd d (hr.mpr (ca.mp (by rw [c]; decide)))
      · rw [c, d]
    show vp_in (nI i * 8 + nI j) 64 ∧ _
    rw [dl_m8, dl_c (show i * 8 + j < 2 ^ 31 by omega), e]
    refine ⟨vp_in_nI (by omega) (by omega), ?_, rfl, dl_mk Q⟩
    rcases h01 with d | d <;> subst d <;> rfl
  unfold wpX_actsFor
  refine dx_isP1 P8 hi (br_f (by decide) (dx_isP1 P8 hj' (br_f (by decide) ⟨vp_in_nI (by omega) (by omega), ?_⟩)))
  rw [dl_c (show j < 2 ^ 31 by omega)]
  exact dx_contains (by omega) (fun z => br_f (by decide) (fin 1 (Or.inr rfl) ⟨fun _ => z, fun _ => by decide⟩)) (fun z => br_t rfl (fin 0 (Or.inl rfl) ⟨fun y => absurd rfl y, fun y => absurd y (by rw [z]; decide)⟩))
theorem dl_cases (x : Int32) {n : Nat} (hn : n < 2 ^ 31) : x = -1 ∨ (x < -1 ∧ x < 0 ∧ ¬ x = -1) ∨ (¬ x < 0 ∧ nI n ≤ x ∧ ¬ x < nI n ∧ ¬ x < -1 ∧ ¬ x = -1) ∨ (¬ x < 0 ∧ ¬ nI n ≤ x ∧ x < nI n ∧ ¬ x < -1 ∧ ¬ x = -1) := by
  have e1 : (-1 : Int32).toInt = -1 := by decide
  have e0 : (0 : Int32).toInt = 0 := by decide
  by_cases h : x = -1
  · exact Or.inl h
  · have h' : ¬ x.toInt = -1 := fun z => h (Int32.toInt_inj.mp (by rw [z, e1]))
    simp only [Int32.lt_iff_toInt_lt, Int32.le_iff_toInt_le, e1, e0, nI_toInt hn]
    by_cases a : x.toInt < 0
    · exact Or.inr (Or.inl ⟨by omega, a, h⟩)
    · by_cases b : (n : Int) ≤ x.toInt
      · exact Or.inr (Or.inr (Or.inl ⟨a, b, by omega, by omega, h⟩))
      · exact Or.inr (Or.inr (Or.inr ⟨a, b, by omega, by omega, h⟩))
theorem i_vc_setPolicy {k : Nat} {u : SX} {v : SY} (I : i_Rel k u v) (hk : k + 5 ≤ 2562) (v1 : Int32) (v2 : Int32) (v3 : Int32) : wpX_setPolicy (fun r u' => wpY_setPolicy (fun r' v' => r' = r ∧ i_Rel (k + 5) u' v') v v1 v2 v3) u v1 v2 v3 := by
  have J := I
  obtain ⟨xP, xC, xA, xL, xO, xQ, xS, xK, dA, aA, po, st, jm, pl, op, el, so, ip, va, ov, oc⟩ := u
  obtain ⟨yP, yC, yA, yL, yQ, yS, yK, yD, ed, cl, py, sk, sa, sb, sc, yi, yv, yo, yn, jl, pc, sv, bk, be⟩ := v
  obtain ⟨P, C, L, q, rfl, rfl, rfl, rfl, rfl, rfl, rfl, rfl, rfl, rfl, rfl, rfl, rfl, rfl, rfl, rfl, Q⟩ := I
  obtain ⟨⟨P2, P8⟩, ⟨LC, C64⟩, qL, hD, hA, hE, hp, ho, hj⟩ := id Q
  have sh := dl_sh P P8
  have p31 := dl_2P P8
  have m1 : (-1 : Int32) < nI (2 ^ P) := dl_m1lt p31
  rcases dl_rg v1 (n := 20) (by omega) with b | ⟨t, ht, rfl⟩
  · unfold wpX_setPolicy
    refine dx_isTarget0 b (br_t rfl ?_)
    unfold wpY_setPolicy
    rcases b with b | b
    · exact br_t b ⟨rfl, J⟩
    · exact br_f b.1 (br_t b.2 ⟨rfl, J⟩)
  have t0 : ¬ nI t < 0 := nI_pos (by omega)
  have t20 : ¬ (20 : Int32) ≤ nI t := nI_ge (b := 20) ht (by omega)
  rcases dl_rg v2 (n := P) (by omega) with b | ⟨o, ho', rfl⟩
  · unfold wpX_setPolicy
    refine dx_isTarget1 ht (br_f (by decide) (dx_isP0 b (br_t rfl ?_)))
    unfold wpY_setPolicy
    exact br_f t0 (br_f t20 (dy_isP0 b (br_t rfl ⟨rfl, J⟩)))
  have v160 : vp_in (nI (t * 8 + o)) 160 := vp_in_nI (by omega) (by omega)
  have c160 := dl_c (show t * 8 + o < 2 ^ 31 by omega)
  have acc : ¬ v3 < -1 → v3 < nI (2 ^ P) → wX_setPolicy_32 (fun r u' => wpY_setPolicy (fun r' v' => r' = r ∧ i_Rel (k + 5) u' v') (nI P, nI C, xA, nI L, nI q, xS, xK, yD, ed, cl, po, sk, sa, sb, sc, ip, va, ov, oc, jl, pc, sv, bk, be) (nI t) (nI o) v3) (nI t) (nI o) v3 (nI P) (nI C) xA (nI L) xO (nI q) xS xK dA aA po st jm pl op el so ip va ov oc := by
    intro a1 a2
    unfold wX_setPolicy_32 wpX_cell
    rw [dl_m8]
    dsimp only
    rw [c160]
    refine ⟨v160, nm_e (dx_reset ?_)⟩
    unfold wpY_setPolicy
    refine br_f t0 (br_f t20 (dy_isP1 P8 ho' (br_f (by decide) (br_f a1 ?_))))
    rw [sh, dl_m8, c160]
    exact br_t a2 ⟨v160, nm_e (dy_reset ⟨rfl, dl_mkr (dl_Qr Q)⟩)⟩
  unfold wpX_setPolicy
  refine dx_isTarget1 ht (br_f (by decide) (dx_isP1 P8 ho' (br_f (by decide) ?_)))
  rcases dl_cases v3 p31 with z | ⟨z1, z2, z3⟩ | ⟨z1, z2, z3, z4, z5⟩ | ⟨z1, z2, z3, z4, z5⟩
  · exact br_t z (acc (by rw [z]; decide) (by rw [z]; exact m1))
  · refine br_f z3 (dx_isPS0a z2 (br_t rfl ?_))
    unfold wpY_setPolicy
    exact br_f t0 (br_f t20 (dy_isP1 P8 ho' (br_f (by decide) (br_t z1 ⟨rfl, J⟩))))
  · refine br_f z5 (dx_isPS0b P8 z1 z2 (br_t rfl ?_))
    unfold wpY_setPolicy
    refine br_f t0 (br_f t20 (dy_isP1 P8 ho' (br_f (by decide) (br_f z4 ?_))))
    rw [sh]
    exact br_f z3 ⟨rfl, J⟩
  · exact br_f z5 (dx_isPS1 P8 z1 z2 (br_f (by decide) (acc z4 z3)))
theorem i_vc_getPolicy {k : Nat} {u : SX} {v : SY} (I : i_Rel k u v) (hk : k + 5 ≤ 2562) (v1 : Int32) (v2 : Int32) : wpX_getPolicy (fun r => wpY_getPolicy (fun r' => r' = r ∧ i_Rel (k + 5) u v) v v1 v2) u v1 v2 := by
  have J := I
  obtain ⟨xP, xC, xA, xL, xO, xQ, xS, xK, dA, aA, po, st, jm, pl, op, el, so, ip, va, ov, oc⟩ := u
  obtain ⟨yP, yC, yA, yL, yQ, yS, yK, yD, ed, cl, py, sk, sa, sb, sc, yi, yv, yo, yn, jl, pc, sv, bk, be⟩ := v
  obtain ⟨P, C, L, q, rfl, rfl, rfl, rfl, rfl, rfl, rfl, rfl, rfl, rfl, rfl, rfl, rfl, rfl, rfl, rfl, Q⟩ := I
  obtain ⟨⟨P2, P8⟩, ⟨LC, C64⟩, qL, hD, hA, hE, hp, ho, hj⟩ := id Q
  rcases dl_rg v1 (n := 20) (by omega) with b | ⟨t, ht, rfl⟩
  · unfold wpX_getPolicy
    refine dx_isTarget0 b (br_t rfl ?_)
    unfold wpY_getPolicy
    rcases b with b | b
    · exact br_t b ⟨rfl, J⟩
    · exact br_f b.1 (br_t b.2 ⟨rfl, J⟩)
  have t0 : ¬ nI t < 0 := nI_pos (by omega)
  have t20 : ¬ (20 : Int32) ≤ nI t := nI_ge (b := 20) ht (by omega)
  rcases dl_rg v2 (n := P) (by omega) with b | ⟨o, ho', rfl⟩
  · unfold wpX_getPolicy
    refine dx_isTarget1 ht (br_f (by decide) (dx_isP0 b (br_t rfl ?_)))
    unfold wpY_getPolicy
    exact br_f t0 (br_f t20 (dy_isP0 b (br_t rfl ⟨rfl, J⟩)))
  have v160 : vp_in (nI (t * 8 + o)) 160 := vp_in_nI (by omega) (by omega)
  unfold wpX_getPolicy
  refine dx_isTarget1 ht (br_f (by decide) (dx_isP1 P8 ho' (br_f (by decide) ?_)))
  unfold wpX_cell
  rw [dl_m8]
  dsimp only
  refine ⟨v160, ?_⟩
  unfold wpY_getPolicy
  refine br_f t0 (br_f t20 (dy_isP1 P8 ho' (br_f (by decide) ?_)))
  rw [dl_m8]
  exact ⟨v160, rfl, J⟩
theorem i_vc_canRead {k : Nat} {u : SX} {v : SY} (I : i_Rel k u v) (hk : k + 5 ≤ 2562) (v1 : Int32) (v2 : Int32) : wpX_canRead (fun r => wpY_canRead (fun r' v' => r' = r ∧ i_Rel (k + 5) u v') v v1 v2) u v1 v2 := by
  have J := I
  obtain ⟨xP, xC, xA, xL, xO, xQ, xS, xK, dA, aA, po, st, jm, pl, op, el, so, ip, va, ov, oc⟩ := u
  obtain ⟨yP, yC, yA, yL, yQ, yS, yK, yD, ed, cl, py, sk, sa, sb, sc, yi, yv, yo, yn, jl, pc, sv, bk, be⟩ := v
  obtain ⟨P, C, L, q, rfl, rfl, rfl, rfl, rfl, rfl, rfl, rfl, rfl, rfl, rfl, rfl, rfl, rfl, rfl, rfl, Q⟩ := I
  obtain ⟨⟨P2, P8⟩, ⟨LC, C64⟩, qL, hD, hA, hE, hp, ho, hj⟩ := id Q
  rcases dl_rg v1 (n := P) (by omega) with b | ⟨p, hp', rfl⟩
  · unfold wpX_canRead
    refine dx_isP0 b (br_t rfl ?_)
    unfold wpY_canRead
    exact dy_isP0 b (br_t rfl ⟨rfl, J⟩)
  rcases dl_rg v2 (n := 20) (by omega) with b | ⟨t, ht, rfl⟩
  · unfold wpX_canRead
    refine dx_isP1 P8 hp' (br_f (by decide) (dx_isTarget0 b (br_t rfl ?_)))
    unfold wpY_canRead
    rcases b with b | b
    · exact dy_isP1 P8 hp' (br_f (by decide) (br_t b ⟨rfl, J⟩))
    · exact dy_isP1 P8 hp' (br_f (by decide) (br_f b.1 (br_f (Int32.not_lt.mpr b.2) ⟨rfl, J⟩)))
  have t0 : ¬ nI t < 0 := nI_pos (by omega)
  have t20 : nI t < (20 : Int32) := nI_lt (b := 20) ht (by omega)
  have fin : ∀ r : Int32, ((dl_rd P aA po t p → r = 1) ∧ (¬ dl_rd P aA po t p → r = 0)) → wpY_canRead (fun r' v' => r' = r ∧ i_Rel (k + 5) (nI P, nI C, xA, nI L, xO, nI q, xS, xK, dA, aA, po, st, jm, pl, op, el, so, ip, va, ov, oc) v') (nI P, nI C, xA, nI L, nI q, xS, xK, yD, ed, cl, po, sk, sa, sb, sc, ip, va, ov, oc, jl, pc, sv, bk, be) (nI p) (nI t) := by
    intro r hr
    unfold wpY_canRead
    exact dy_isP1 P8 hp' (br_f (by decide) (br_f t0 (br_t t20 (dy_close (by omega) P8 hE (fun C' hC => dy_rd P8 ht hp' hA (dl_CAof hA hC) (fun z => ⟨(hr.1 z).symm, dl_mk Q⟩) (fun z => ⟨(hr.2 z).symm, dl_mk Q⟩))))))
  unfold wpX_canRead
  exact dx_isP1 P8 hp' (br_f (by decide) (dx_isTarget1 ht (br_f (by decide) (dx_rd P8 ht hp' (fun z => fin 1 ⟨fun _ => rfl, fun y => absurd z y⟩) (fun z => fin 0 ⟨fun y => absurd y z, fun _ => rfl⟩)))))
theorem i_vc_setAuthority {k : Nat} {u : SX} {v : SY} (I : i_Rel k u v) (hk : k + 5 ≤ 2562) (v1 : Int32) : wpX_setAuthority (fun r u' => wpY_setAuthority (fun r' v' => r' = r ∧ i_Rel (k + 5) u' v') v v1) u v1 := by
  have J := I
  obtain ⟨xP, xC, xA, xL, xO, xQ, xS, xK, dA, aA, po, st, jm, pl, op, el, so, ip, va, ov, oc⟩ := u
  obtain ⟨yP, yC, yA, yL, yQ, yS, yK, yD, ed, cl, py, sk, sa, sb, sc, yi, yv, yo, yn, jl, pc, sv, bk, be⟩ := v
  obtain ⟨P, C, L, q, rfl, rfl, rfl, rfl, rfl, rfl, rfl, rfl, rfl, rfl, rfl, rfl, rfl, rfl, rfl, rfl, Q⟩ := I
  obtain ⟨⟨P2, P8⟩, ⟨LC, C64⟩, qL, hD, hA, hE, hp, ho, hj⟩ := id Q
  have sh := dl_sh P P8
  have p31 := dl_2P P8
  rcases dl_rg v1 (n := 2 ^ P) p31 with b | ⟨m, hm, rfl⟩
  · unfold wpX_setAuthority
    rcases b with b | b
    · refine dx_isPS0a b (br_t rfl ?_)
      unfold wpY_setAuthority
      exact br_t b ⟨rfl, J⟩
    · refine dx_isPS0b P8 b.1 b.2 (br_t rfl ?_)
      unfold wpY_setAuthority
      refine br_f b.1 ?_
      rw [sh]
      exact br_f (Int32.not_lt.mpr b.2) ⟨rfl, J⟩
  · have m31 : m < 2 ^ 31 := Nat.lt_trans hm p31
    unfold wpX_setAuthority
    refine dx_isPS1 P8 (nI_pos m31) (nI_ge hm p31) (br_f (by decide) (dx_reset ?_))
    unfold wpY_setAuthority
    refine br_f (nI_pos m31) ?_
    rw [sh]
    exact br_t (nI_lt hm p31) (dy_reset ⟨rfl, dl_mkr (dl_Qr Q)⟩)
theorem i_vc_setInput {k : Nat} {u : SX} {v : SY} (I : i_Rel k u v) (hk : k + 5 ≤ 2562) (v1 : Int32) (v2 : Int32) : wpX_setInput (fun r u' => wpY_setInput (fun r' v' => r' = r ∧ i_Rel (k + 5) u' v') v v1 v2) u v1 v2 := by
  have J := I
  obtain ⟨xP, xC, xA, xL, xO, xQ, xS, xK, dA, aA, po, st, jm, pl, op, el, so, ip, va, ov, oc⟩ := u
  obtain ⟨yP, yC, yA, yL, yQ, yS, yK, yD, ed, cl, py, sk, sa, sb, sc, yi, yv, yo, yn, jl, pc, sv, bk, be⟩ := v
  obtain ⟨P, C, L, q, rfl, rfl, rfl, rfl, rfl, rfl, rfl, rfl, rfl, rfl, rfl, rfl, rfl, rfl, rfl, rfl, Q⟩ := I
  obtain ⟨⟨P2, P8⟩, ⟨LC, C64⟩, qL, hD, hA, hE, hp, ho, hj⟩ := id Q
  rcases dl_rg v1 (n := 16) (by omega) with b | ⟨j, hj', rfl⟩
  · unfold wpX_setInput
    refine dx_isVariable0 b (br_t rfl ?_)
    unfold wpY_setInput
    exact dy_isVar0 b (br_t rfl ⟨rfl, J⟩)
  · have vj : vp_in (nI j) 16 := vp_in_nI hj' (by omega)
    unfold wpX_setInput
    refine dx_isVariable1 hj' (br_f (by decide) ⟨vj, nm_e ?_⟩)
    unfold wpY_setInput
    exact dy_isVar1 hj' (br_f (by decide) ⟨vj, nm_e ⟨rfl, dl_mk Q⟩⟩)
theorem i_vc_clearProgram {k : Nat} {u : SX} {v : SY} (I : i_Rel k u v) (hk : k + 5 ≤ 2562) : wpX_clearProgram (fun u' => wpY_clearProgram (fun v' => i_Rel (k + 5) u' v') v) u := by
  have J := I
  obtain ⟨xP, xC, xA, xL, xO, xQ, xS, xK, dA, aA, po, st, jm, pl, op, el, so, ip, va, ov, oc⟩ := u
  obtain ⟨yP, yC, yA, yL, yQ, yS, yK, yD, ed, cl, py, sk, sa, sb, sc, yi, yv, yo, yn, jl, pc, sv, bk, be⟩ := v
  obtain ⟨P, C, L, q, rfl, rfl, rfl, rfl, rfl, rfl, rfl, rfl, rfl, rfl, rfl, rfl, rfl, rfl, rfl, rfl, Q⟩ := I
  obtain ⟨⟨P2, P8⟩, ⟨LC, C64⟩, qL, hD, hA, hE, hp, ho, hj⟩ := id Q
  unfold wpX_clearProgram
  refine dx_reset ?_
  unfold wpY_clearProgram
  exact dy_reset (dl_mkr (L := 0) ⟨⟨P2, P8⟩, ⟨Nat.zero_le _, C64⟩, Nat.zero_le _, hD, hA, hE, fun i hi => absurd hi (by omega), dl_zn4 oc, fun z => absurd rfl z⟩)
theorem i_vc_getStmt {k : Nat} {u : SX} {v : SY} (I : i_Rel k u v) (hk : k + 5 ≤ 2562) (v1 : Int32) (v2 : Int32) : wpX_getStmt (fun r => wpY_getStmt (fun r' => r' = r ∧ i_Rel (k + 5) u v) v v1 v2) u v1 v2 := by
  have J := I
  obtain ⟨xP, xC, xA, xL, xO, xQ, xS, xK, dA, aA, po, st, jm, pl, op, el, so, ip, va, ov, oc⟩ := u
  obtain ⟨yP, yC, yA, yL, yQ, yS, yK, yD, ed, cl, py, sk, sa, sb, sc, yi, yv, yo, yn, jl, pc, sv, bk, be⟩ := v
  obtain ⟨P, C, L, q, rfl, rfl, rfl, rfl, rfl, rfl, rfl, rfl, rfl, rfl, rfl, rfl, rfl, rfl, rfl, rfl, Q⟩ := I
  obtain ⟨⟨P2, P8⟩, ⟨LC, C64⟩, qL, hD, hA, hE, hp, ho, hj⟩ := id Q
  rcases dl_rg v1 (n := L) (by omega) with b | ⟨i, hi, rfl⟩
  · unfold wpX_getStmt
    rcases b with b | b
    · refine br_t b ?_
      unfold wpY_getStmt
      exact br_t b ⟨rfl, J⟩
    · refine br_f b.1 (br_t b.2 ?_)
      unfold wpY_getStmt
      exact br_f b.1 (br_t b.2 ⟨rfl, J⟩)
  have i0 : ¬ nI i < 0 := nI_pos (by omega)
  have iL : ¬ nI L ≤ nI i := nI_ge hi (by omega)
  have vi : vp_in (nI i) 64 := vp_in_nI (by omega) (by omega)
  have ci := dl_c (show i < 2 ^ 31 by omega)
  obtain ⟨p0, p1, p2, p3, _⟩ := hp i hi
  rcases dl_rg v2 (n := 4) (by omega) with b | ⟨f, hf, rfl⟩
  · unfold wpX_getStmt
    rcases b with b | b
    · refine br_f i0 (br_f iL (br_t b ?_))
      unfold wpY_getStmt
      exact br_f i0 (br_f iL (br_t b ⟨rfl, J⟩))
    · have b4 : ¬ v2 < 4 := Int32.not_lt.mpr b.2
      have b3 : ¬ v2 ≤ 3 := by
        have q : nI 4 ≤ v2 := b.2
        rw [Int32.le_iff_toInt_le, nI_toInt (by omega)] at q
        rw [Int32.le_iff_toInt_le]
        have e3 : (3 : Int32).toInt = 3 := by decide
        omega
      refine br_f i0 (br_f iL (br_f b.1 (br_f b4 ?_)))
      unfold wpY_getStmt
      exact br_f i0 (br_f iL (br_f b.1 (br_f b3 ⟨rfl, J⟩)))
  have f4 : nI f < (4 : Int32) := nI_lt (b := 4) hf (by omega)
  have f3 : nI f ≤ (3 : Int32) := nI_le (b := 3) (by omega) (by omega)
  have f0 : ¬ nI f < 0 := nI_pos (by omega)
  unfold wpX_getStmt
  refine br_f i0 (br_f iL (br_f f0 (br_t f4 ?_)))
  rw [dl_m4, nI_add, dl_c (show i * 4 + f < 2 ^ 31 by omega)]
  refine ⟨vp_in_nI (by omega) (by omega), ?_⟩
  unfold wpY_getStmt
  refine br_f i0 (br_f iL (br_f f0 (br_t f3 ?_)))
  rw [ci]
  have ef : f = 0 ∨ f = 1 ∨ f = 2 ∨ f = 3 := by omega
  rcases ef with e | e | e | e <;> subst e
  · exact br_t rfl ⟨vi, p0.symm, J⟩
  · exact br_f (by decide) (br_t rfl ⟨vi, p1.symm, J⟩)
  · exact br_f (by decide) (br_f (by decide) (br_t rfl ⟨vi, p2.symm, J⟩))
  · exact br_f (by decide) (br_f (by decide) (br_f (by decide) ⟨vi, p3.symm, J⟩))
theorem i_vc_check {k : Nat} {u : SX} {v : SY} (I : i_Rel k u v) (hk : k + 5 ≤ 2562) : wpX_check (fun r u' => wpY_check (fun r' v' => r' = r ∧ i_Rel (k + 5) u' v') v) u := by
  have J := I
  obtain ⟨xP, xC, xA, xL, xO, xQ, xS, xK, dA, aA, po, st, jm, pl, op, el, so, ip, va, ov, oc⟩ := u
  obtain ⟨yP, yC, yA, yL, yQ, yS, yK, yD, ed, cl, py, sk, sa, sb, sc, yi, yv, yo, yn, jl, pc, sv, bk, be⟩ := v
  obtain ⟨P, C, L, q, rfl, rfl, rfl, rfl, rfl, rfl, rfl, rfl, rfl, rfl, rfl, rfl, rfl, rfl, rfl, rfl, Q⟩ := I
  obtain ⟨⟨P2, P8⟩, ⟨LC, C64⟩, qL, hD, hA, hE, hp, ho, hj⟩ := id Q
  obtain ⟨r, D', jm', pl', op', el', so', jl', pc', sv', bk', be', hr, hx, hy⟩ := dl_chk (xC := nI C) (xA := xA) (xQ := 0) (xS := 0) (xK := -1) (yC := nI C) (yQ := 0) (yS := 0) (yK := -1) (po := po) (ip := ip) (va := va) (ov := ov) (oc := dl_zn oc 4) (ed := ed) (yi := ip) (yv := va) (yo := ov) (yn := dl_zn oc 4) P8 (show L ≤ 64 by omega) hA hp L 0 0 jm (dl_row (fun _ => -1) pl 8) op el so jl (dl_row (fun _ => -1) pc 8) sv bk be (by omega) (dl_CR0 P8)
  by_cases z : r = 0
  · unfold wpX_check
    refine dx_reset (dx_first ⟨L + 1, hx _ (br_t z ?_)⟩)
    unfold wpY_check
    exact dy_reset (dy_close (by omega) P8 hE (fun C' hC => dy_first ⟨L + 1, hy C' (dl_CAof hA hC) _ (br_t z ⟨rfl, dl_mk (q := 0) (xS := 1) (xK := r) (oc := dl_zn oc 4) ⟨⟨P2, P8⟩, ⟨LC, C64⟩, Nat.zero_le _, hD, hA, hE, hp, dl_zn4 oc, fun _ => hr z⟩⟩)⟩))
  · unfold wpX_check
    refine dx_reset (dx_first ⟨L + 1, hx _ (br_f z ?_)⟩)
    unfold wpY_check
    exact dy_reset (dy_close (by omega) P8 hE (fun C' hC => dy_first ⟨L + 1, hy C' (dl_CAof hA hC) _ (br_f z ⟨rfl, dl_mk (q := 0) (xS := 0) (xK := r) (oc := dl_zn oc 4) ⟨⟨P2, P8⟩, ⟨LC, C64⟩, Nat.zero_le _, hD, hA, hE, hp, dl_zn4 oc, fun y => absurd rfl y⟩⟩)⟩))
theorem dx_load {post : Int32 → SX → Prop} (h : post 1 (xP, xC, xA, xL, xO, 0, 2, xK, dA, aA, po, st, jm, pl, op, el, so, ip, dl_row ip va 16, ov, dl_zn oc 4)) : ∃ n, wX_start_11 post xP xC xA xL xO xQ xS xK n 0 dA aA po st jm pl op el so ip va ov oc := by
  refine loop_0 (fun n i a => wX_start_11 post xP xC xA xL xO xQ xS xK n (nI i) dA aA po st jm pl op el so ip a ov oc) (fun i a => a = dl_row ip va i) 16 va (dl_row_0 _ _).symm ?_ ?_
  · intro n a ha
    subst ha
    exact br_t (nI_le (a := 16) (b := 16) (by omega) (by omega)) (dx_empty h)
  · intro n i a hi ha ih
    subst ha
    refine br_f (nI_ge (b := 16) hi (by omega)) ?_
    rw [dl_c (show i < 2 ^ 31 by omega)]
    exact ⟨vp_in_nI (by omega) (by omega), vp_in_nI (by omega) (by omega), nm_e (nm_r (nI_1 i) (ih _ (dl_row_s rfl)))⟩
theorem dy_s37 {post : Int32 → SY → Prop} (h : post 1 (yP, yC, yA, yL, 0, 2, yK, yD, ed, cl, py, sk, sa, sb, sc, yi, yv, yo, dl_zn yn 4, jl, pc, sv, bk, be)) : ∃ n, wY_start_37 post yP yC yA yL yQ yS yK yD n 0 ed cl py sk sa sb sc yi yv yo yn jl pc sv bk be := by
  refine loop_0 (fun n i a => wY_start_37 post yP yC yA yL yQ yS yK yD n (nI i) ed cl py sk sa sb sc yi yv yo a jl pc sv bk be) (fun i a => a = dl_zn yn i) 4 yn rfl ?_ ?_
  · intro n a ha
    subst ha
    exact br_t (nI_le (a := 4) (b := 4) (by omega) (by omega)) h
  · intro n i a hi ha ih
    subst ha
    refine br_f (nI_ge (b := 4) hi (by omega)) ⟨vp_in_nI hi (by omega), nm_r (e' := dl_zn yn (i + 1)) ?_ (nm_r (nI_1 i) (ih _ rfl))⟩
    rw [dl_c (by omega)]
    rfl
theorem dy_load {post : Int32 → SY → Prop} (h : post 1 (yP, yC, yA, yL, 0, 2, yK, yD, ed, cl, py, sk, sa, sb, sc, yi, dl_row yi yv 16, yo, dl_zn yn 4, jl, pc, sv, bk, be)) : ∃ n, wY_start_11 post yP yC yA yL yQ yS yK yD n 0 ed cl py sk sa sb sc yi yv yo yn jl pc sv bk be := by
  refine loop_0 (fun n i a => wY_start_11 post yP yC yA yL yQ yS yK yD n (nI i) ed cl py sk sa sb sc yi a yo yn jl pc sv bk be) (fun i a => a = dl_row yi yv i) 16 yv (dl_row_0 _ _).symm ?_ ?_
  · intro n a ha
    subst ha
    exact br_t (nI_le (a := 16) (b := 16) (by omega) (by omega)) (dy_s37 h)
  · intro n i a hi ha ih
    subst ha
    refine br_f (nI_ge (b := 16) hi (by omega)) ?_
    rw [dl_c (show i < 2 ^ 31 by omega)]
    exact ⟨vp_in_nI (by omega) (by omega), vp_in_nI (by omega) (by omega), nm_e (nm_r (nI_1 i) (ih _ (dl_row_s rfl)))⟩
theorem i_vc_start {k : Nat} {u : SX} {v : SY} (I : i_Rel k u v) (hk : k + 5 ≤ 2562) : wpX_start (fun r u' => wpY_start (fun r' v' => r' = r ∧ i_Rel (k + 5) u' v') v) u := by
  have J := I
  obtain ⟨xP, xC, xA, xL, xO, xQ, xS, xK, dA, aA, po, st, jm, pl, op, el, so, ip, va, ov, oc⟩ := u
  obtain ⟨yP, yC, yA, yL, yQ, yS, yK, yD, ed, cl, py, sk, sa, sb, sc, yi, yv, yo, yn, jl, pc, sv, bk, be⟩ := v
  obtain ⟨P, C, L, q, rfl, rfl, rfl, rfl, rfl, rfl, rfl, rfl, rfl, rfl, rfl, rfl, rfl, rfl, rfl, rfl, Q⟩ := I
  obtain ⟨⟨P2, P8⟩, ⟨LC, C64⟩, qL, hD, hA, hE, hp, ho, hj⟩ := id Q
  by_cases z : xS = 0
  · unfold wpX_start
    refine br_t z ?_
    unfold wpY_start
    exact br_t z ⟨rfl, J⟩
  · unfold wpX_start
    refine br_f z (dx_load ?_)
    unfold wpY_start
    exact br_f z (dy_load ⟨rfl, dl_mk (q := 0) (xS := 2) (va := dl_row ip va 16) (oc := dl_zn oc 4) ⟨⟨P2, P8⟩, ⟨LC, C64⟩, Nat.zero_le _, hD, hA, hE, hp, dl_zn4 oc, fun _ => hj z⟩⟩)
theorem i_vc_run {k : Nat} {u : SX} {v : SY} (I : i_Rel k u v) (hk : k + 5 ≤ 2562) (v1 : Int32) : wpX_run (fun r u' => wpY_run (fun r' v' => r' = r ∧ i_Rel (k + 5) u' v') v v1) u v1 := by
  have J := I
  obtain ⟨xP, xC, xA, xL, xO, xQ, xS, xK, dA, aA, po, st, jm, pl, op, el, so, ip, va, ov, oc⟩ := u
  obtain ⟨yP, yC, yA, yL, yQ, yS, yK, yD, ed, cl, py, sk, sa, sb, sc, yi, yv, yo, yn, jl, pc, sv, bk, be⟩ := v
  obtain ⟨P, C, L, q, rfl, rfl, rfl, rfl, rfl, rfl, rfl, rfl, rfl, rfl, rfl, rfl, rfl, rfl, rfl, rfl, Q⟩ := I
  obtain ⟨⟨P2, P8⟩, ⟨LC, C64⟩, qL, hD, hA, hE, hp, ho, hj⟩ := id Q
  by_cases z : xS = 2
  · subst z
    have main : ∀ m : Nat, m ≤ 1000 → ∃ r : Int32, ∃ u' : SX, ∃ v' : SY, i_Rel (k + 5) u' v' ∧ (∀ post : Int32 → SX → Prop, post r u' → ∃ n, wX_run_24 post (nI m) n 0 (nI P) (nI C) xA (nI L) xO (nI q) 2 xK dA aA po st jm pl op el so ip va ov oc) ∧ (∀ post : Int32 → SY → Prop, post r v' → ∃ n, wY_run_39 post (nI m) n 0 (nI P) (nI C) xA (nI L) (nI q) 2 xK yD ed cl po sk sa sb sc ip va ov oc jl pc sv bk be) := by
      intro m hm
      obtain ⟨s, q', va', ov', oc', h1, h2, h3, h4, h5⟩ := dl_run (P := P) (C := C) (xA := xA) (xO := xO) (xK := xK) (yD := yD) (dA := dA) (aA := aA) (po := po) (jm := jm) (pl := pl) (op := op) (el := el) (so := so) (ip := ip) (ed := ed) (cl := cl) (jl := jl) (pc := pc) (sv := sv) (bk := bk) (be := be) (show L ≤ 64 by omega) hm hp (hj (by decide)) m 0 q va ov oc (by omega) qL ho
      exact ⟨s, _, _, dl_mk (q := q') (xS := s) (va := va') (ov := ov') (oc := oc') ⟨⟨P2, P8⟩, ⟨LC, C64⟩, h2, hD, hA, hE, hp, h3, fun _ => hj (by decide)⟩, fun post z => ⟨m + 1, h4 post z⟩, fun post z => ⟨m + 1, h5 post z⟩⟩
    by_cases a : 1 ≤ v1
    · by_cases b : v1 ≤ 1000
      · obtain ⟨m, hm, e⟩ := nI_of2 (M := 1000) (n := 1000) (by decide) (fun w => absurd (Int32.le_trans a (Int32.le_of_lt w)) (by decide)) b
        subst e
        obtain ⟨r, u', v', hR, hx, hy⟩ := main m hm
        unfold wpX_run
        refine br_t rfl (br_t a (br_t b (hx _ ?_)))
        unfold wpY_run
        exact br_t a (br_t b (br_t rfl (hy _ ⟨rfl, hR⟩)))
      · obtain ⟨r, u', v', hR, hx, hy⟩ := main 1000 (Nat.le_refl _)
        unfold wpX_run
        refine br_t rfl (br_t a (br_f b (hx _ ?_)))
        unfold wpY_run
        exact br_t a (br_f b (br_t rfl (hy _ ⟨rfl, hR⟩)))
    · obtain ⟨r, u', v', hR, hx, hy⟩ := main 1 (by omega)
      unfold wpX_run
      refine br_t rfl (br_f a (hx _ ?_))
      unfold wpY_run
      exact br_f a (br_t rfl (hy _ ⟨rfl, hR⟩))
  · unfold wpX_run
    refine br_f z ?_
    unfold wpY_run
    exact br_c (fun _ => br_c (fun _ => br_f z ⟨rfl, J⟩) (fun _ => br_f z ⟨rfl, J⟩)) (fun _ => br_f z ⟨rfl, J⟩)
theorem dl_far {x : Int32} (b : x < 0 ∨ (¬ x < 0 ∧ nI 37 ≤ x)) : ((x < 0 ∧ x < 16 ∧ x < 32) ∨ (¬ x < 0 ∧ 16 ≤ x ∧ ¬ x < 16 ∧ 32 ≤ x ∧ ¬ x < 32 ∧ 36 < x)) ∧ ¬ x = 32 ∧ ¬ x = 33 ∧ ¬ x = 34 ∧ ¬ x = 35 ∧ ¬ x = 36 := by
  have t : x.toInt < 0 ∨ 37 ≤ x.toInt := by
    rcases b with b | b
    · rw [Int32.lt_iff_toInt_lt] at b
      exact Or.inl b
    · have q := b.2
      rw [Int32.le_iff_toInt_le, nI_toInt (by omega)] at q
      exact Or.inr q
  have ne : ∀ (y : Int32) (n : Nat), y.toInt = n → 32 ≤ n → n ≤ 36 → ¬ x = y := by
    intro y n e1 e2 e3 e4
    rw [e4, e1] at t
    omega
  refine ⟨?_, ne 32 32 (by decide) (by omega) (by omega), ne 33 33 (by decide) (by omega) (by omega), ne 34 34 (by decide) (by omega) (by omega), ne 35 35 (by decide) (by omega) (by omega), ne 36 36 (by decide) (by omega) (by omega)⟩
  have e0 : (0 : Int32).toInt = 0 := by decide
  have e16 : (16 : Int32).toInt = 16 := by decide
  have e32 : (32 : Int32).toInt = 32 := by decide
  have e36 : (36 : Int32).toInt = 36 := by decide
  simp only [Int32.lt_iff_toInt_lt, Int32.le_iff_toInt_le, e0, e16, e32, e36]
  omega
theorem i_vc_getValue {k : Nat} {u : SX} {v : SY} (I : i_Rel k u v) (hk : k + 5 ≤ 2562) (v1 : Int32) : wpX_getValue (fun r => wpY_getValue (fun r' => r' = r ∧ i_Rel (k + 5) u v) v v1) u v1 := by
  have J := I
  obtain ⟨xP, xC, xA, xL, xO, xQ, xS, xK, dA, aA, po, st, jm, pl, op, el, so, ip, va, ov, oc⟩ := u
  obtain ⟨yP, yC, yA, yL, yQ, yS, yK, yD, ed, cl, py, sk, sa, sb, sc, yi, yv, yo, yn, jl, pc, sv, bk, be⟩ := v
  obtain ⟨P, C, L, q, rfl, rfl, rfl, rfl, rfl, rfl, rfl, rfl, rfl, rfl, rfl, rfl, rfl, rfl, rfl, rfl, Q⟩ := I
  obtain ⟨⟨P2, P8⟩, ⟨LC, C64⟩, qL, hD, hA, hE, hp, ho, hj⟩ := id Q
  rcases dl_rg v1 (n := 37) (by omega) with b | ⟨j, hj', rfl⟩
  · obtain ⟨f, n32, n33, n34, n35, n36⟩ := dl_far b
    have y39 : ∀ r : Int32, r = 0 → wY_getValue_39 (fun r' => r' = r ∧ i_Rel (k + 5) (nI P, nI C, xA, nI L, xO, nI q, xS, xK, dA, aA, po, st, jm, pl, op, el, so, ip, va, ov, oc) (nI P, nI C, xA, nI L, nI q, xS, xK, yD, ed, cl, po, sk, sa, sb, sc, ip, va, ov, oc, jl, pc, sv, bk, be)) v1 (nI P) (nI C) xA (nI L) (nI q) xS xK yD ed cl po sk sa sb sc ip va ov oc jl pc sv bk be := fun r e => br_f n32 (br_f n33 (br_f n34 (br_f n35 (br_f n36 ⟨e.symm, J⟩))))
    rcases f with ⟨f0, f16, f32⟩ | ⟨f0, f16, f16', f32, f32', f36⟩
    · unfold wpX_getValue
      refine dx_isVariable0 (Or.inl f0) (br_t rfl (br_t f16 (br_t f32 ?_)))
      unfold wpY_getValue
      exact br_t f0 (br_t f16 (y39 0 rfl))
    · unfold wpX_getValue
      refine dx_isVariable0 (Or.inr ⟨f0, f16⟩) (br_t rfl (br_f f16' (br_t f32 (br_f f32' (br_t f36 ?_)))))
      unfold wpY_getValue
      exact br_f f0 (br_t f16 (br_f f16' (br_t f32 (y39 0 rfl))))
  have j0 : ¬ nI j < 0 := nI_pos (by omega)
  rcases Nat.lt_or_ge j 16 with h16 | h16
  · have vj : vp_in (nI j) 16 := vp_in_nI h16 (by omega)
    unfold wpX_getValue
    refine dx_isVariable1 h16 (br_f (by decide) ⟨vj, ?_⟩)
    unfold wpY_getValue
    exact br_f j0 (br_f (nI_ge (b := 16) h16 (by omega)) ⟨vj, rfl, J⟩)
  have g16 : (16 : Int32) ≤ nI j := nI_le (a := 16) h16 (by omega)
  have g16' : ¬ nI j < 16 := nI_nlt (b := 16) h16 (by omega)
  rcases Nat.lt_or_ge j 32 with h32 | h32
  · have g32 : ¬ (32 : Int32) ≤ nI j := nI_ge (b := 32) h32 (by omega)
    have v16 : vp_in (nI j - 16) 16 := by
      rw [show nI j - 16 = nI (j - 16) from pk_sub (b := 16) h16]
      exact vp_in_nI (by omega) (by omega)
    unfold wpX_getValue
    refine dx_isVariable0 (Or.inr ⟨j0, g16⟩) (br_t rfl (br_f g16' (br_f g32 ⟨v16, ?_⟩)))
    unfold wpY_getValue
    exact br_f j0 (br_t g16 (br_f g16' (br_f g32 ⟨v16, rfl, J⟩)))
  have g32 : (32 : Int32) ≤ nI j := nI_le (a := 32) h32 (by omega)
  have g32' : ¬ nI j < 32 := nI_nlt (b := 32) h32 (by omega)
  have g36 : ¬ (36 : Int32) < nI j := nI_nlt (a := 36) (by omega) (by omega)
  unfold wpX_getValue
  refine dx_isVariable0 (Or.inr ⟨j0, g16⟩) (br_t rfl (br_f g16' (br_t g32 (br_f g32' (br_f g36 ?_)))))
  have ej : j = 32 ∨ j = 33 ∨ j = 34 ∨ j = 35 ∨ j = 36 := by omega
  rcases ej with e | e | e | e | e <;> subst e
  · refine br_t rfl ?_
    unfold wpY_getValue
    exact br_f j0 (br_t g16 (br_f g16' (br_t g32 (br_t rfl ⟨rfl, J⟩))))
  · refine br_f (by decide) (br_t rfl ?_)
    unfold wpY_getValue
    exact br_f j0 (br_t g16 (br_f g16' (br_t g32 (br_f (by decide) (br_t rfl ⟨rfl, J⟩)))))
  · refine br_f (by decide) (br_f (by decide) (br_t rfl ?_))
    unfold wpY_getValue
    exact br_f j0 (br_t g16 (br_f g16' (br_t g32 (br_f (by decide) (br_f (by decide) (br_t rfl ⟨rfl, J⟩))))))
  · refine br_f (by decide) (br_f (by decide) (br_f (by decide) (br_t rfl ?_)))
    unfold wpY_getValue
    exact br_f j0 (br_t g16 (br_f g16' (br_t g32 (br_f (by decide) (br_f (by decide) (br_f (by decide) (br_t rfl ⟨rfl, J⟩)))))))
  · refine br_f (by decide) (br_f (by decide) (br_f (by decide) (br_f (by decide) (br_t rfl ?_))))
    unfold wpY_getValue
    exact br_f j0 (br_t g16 (br_f g16' (br_t g32 (br_f (by decide) (br_f (by decide) (br_f (by decide) (br_f (by decide) (br_t rfl ⟨rfl, J⟩))))))))
theorem i_vc_outCount {k : Nat} {u : SX} {v : SY} (I : i_Rel k u v) (hk : k + 5 ≤ 2562) (v1 : Int32) : wpX_outCount (fun r => wpY_outCount (fun r' => r' = r ∧ i_Rel (k + 5) u v) v v1) u v1 := by
  have J := I
  obtain ⟨xP, xC, xA, xL, xO, xQ, xS, xK, dA, aA, po, st, jm, pl, op, el, so, ip, va, ov, oc⟩ := u
  obtain ⟨yP, yC, yA, yL, yQ, yS, yK, yD, ed, cl, py, sk, sa, sb, sc, yi, yv, yo, yn, jl, pc, sv, bk, be⟩ := v
  obtain ⟨P, C, L, q, rfl, rfl, rfl, rfl, rfl, rfl, rfl, rfl, rfl, rfl, rfl, rfl, rfl, rfl, rfl, rfl, Q⟩ := I
  obtain ⟨⟨P2, P8⟩, ⟨LC, C64⟩, qL, hD, hA, hE, hp, ho, hj⟩ := id Q
  rcases dl_rg v1 (n := 4) (by omega) with b | ⟨j, hj', rfl⟩
  · unfold wpX_outCount
    refine dx_isChannel0 b (br_t rfl ?_)
    unfold wpY_outCount
    rcases b with b | b
    · exact br_t b ⟨rfl, J⟩
    · exact br_f b.1 (br_f (Int32.not_lt.mpr b.2) ⟨rfl, J⟩)
  · have vj : vp_in (nI j) 4 := vp_in_nI hj' (by omega)
    unfold wpX_outCount
    refine dx_isChannel1 hj' (br_f (by decide) ⟨vj, ?_⟩)
    unfold wpY_outCount
    exact br_f (nI_pos (by omega)) (br_t (nI_lt (b := 4) hj' (by omega)) ⟨vj, rfl, J⟩)
theorem i_vc_outValue {k : Nat} {u : SX} {v : SY} (I : i_Rel k u v) (hk : k + 5 ≤ 2562) (v1 : Int32) (v2 : Int32) : wpX_outValue (fun r => wpY_outValue (fun r' => r' = r ∧ i_Rel (k + 5) u v) v v1 v2) u v1 v2 := by
  have J := I
  obtain ⟨xP, xC, xA, xL, xO, xQ, xS, xK, dA, aA, po, st, jm, pl, op, el, so, ip, va, ov, oc⟩ := u
  obtain ⟨yP, yC, yA, yL, yQ, yS, yK, yD, ed, cl, py, sk, sa, sb, sc, yi, yv, yo, yn, jl, pc, sv, bk, be⟩ := v
  obtain ⟨P, C, L, q, rfl, rfl, rfl, rfl, rfl, rfl, rfl, rfl, rfl, rfl, rfl, rfl, rfl, rfl, rfl, rfl, Q⟩ := I
  obtain ⟨⟨P2, P8⟩, ⟨LC, C64⟩, qL, hD, hA, hE, hp, ho, hj⟩ := id Q
  rcases dl_rg v1 (n := 4) (by omega) with b | ⟨j, hj', rfl⟩
  · unfold wpX_outValue
    refine dx_isChannel0 b (br_t rfl ?_)
    unfold wpY_outValue
    rcases b with b | b
    · exact br_t b ⟨rfl, J⟩
    · exact br_f b.1 (br_t b.2 ⟨rfl, J⟩)
  have vj : vp_in (nI j) 4 := vp_in_nI hj' (by omega)
  have j0 : ¬ nI j < 0 := nI_pos (by omega)
  have j4 : ¬ (4 : Int32) ≤ nI j := nI_ge (b := 4) hj' (by omega)
  have cj := dl_c (show j < 2 ^ 31 by omega)
  obtain ⟨n, hn, en⟩ := ho j hj'
  rcases dl_rg v2 (n := n) (by omega) with b | ⟨i, hi, rfl⟩
  · rcases b with b | b
    · unfold wpX_outValue
      refine dx_isChannel1 hj' (br_f (by decide) (br_t b ?_))
      unfold wpY_outValue
      exact br_f j0 (br_f j4 (br_t b ⟨rfl, J⟩))
    · have nb : ¬ v2 < oc (nI j).toNatClampNeg := by
        rw [cj, en]
        exact Int32.not_lt.mpr b.2
      unfold wpX_outValue
      refine dx_isChannel1 hj' (br_f (by decide) (br_f b.1 ⟨vj, br_f nb ?_⟩))
      unfold wpY_outValue
      exact br_f j0 (br_f j4 (br_f b.1 ⟨vj, br_f nb ⟨rfl, J⟩⟩))
  · have lt : nI i < oc (nI j).toNatClampNeg := by
      rw [cj, en]
      exact nI_lt hi (by omega)
    have v64 : vp_in (nI j * 16 + nI i) 64 := by
      rw [dl_m16]
      exact vp_in_nI (by omega) (by omega)
    have i0 : ¬ nI i < 0 := nI_pos (by omega)
    unfold wpX_outValue
    refine dx_isChannel1 hj' (br_f (by decide) (br_f i0 ⟨vj, br_t lt ⟨v64, ?_⟩⟩))
    unfold wpY_outValue
    exact br_f j0 (br_f j4 (br_f i0 ⟨vj, br_t lt ⟨v64, rfl, J⟩⟩))
/-! the constructors -/
theorem dx_pol {post : SX → Prop} {P : Nat} (P8 : P ≤ 8) (hD : ∀ p, p < P → ∀ a, bt (dA p) a = true → a < P) (h : ∀ A', dl_A P dA A' → post (nI P, xC, xA, xL, xO, 0, 0, -1, dA, A', dl_row (fun _ => -1) po 160, st, jm, pl, op, el, so, ip, va, ov, dl_zn oc 4)) : ∃ n, wX_init_134 post (nI P) xC xA xL xO xQ xS xK n 0 dA aA po st jm pl op el so ip va ov oc := by
  refine loop_0 (fun n i a => wX_init_134 post (nI P) xC xA xL xO xQ xS xK n (nI i) dA aA a st jm pl op el so ip va ov oc) (fun i a => a = dl_row (fun _ => -1) po i) 160 po (dl_row_0 _ _).symm ?_ ?_
  · intro n a ha
    subst ha
    exact br_t (nI_le (a := 160) (b := 160) (by omega) (by omega)) (dx_close P8 hD (fun A' hA => dx_reset (h A' hA)))
  · intro n i a hi ha ih
    subst ha
    refine br_f (nI_ge (b := 160) hi (by omega)) ?_
    rw [dl_c (show i < 2 ^ 31 by omega)]
    exact ⟨vp_in_nI (by omega) (by omega), nm_e (nm_r (nI_1 i) (ih _ (dl_row_s rfl)))⟩
theorem dy_pol {post : SY → Prop} (h : post (yP, yC, yA, yL, yQ, 0, -1, yD, ed, cl, dl_row (fun _ => -1) py 160, sk, sa, sb, sc, yi, yv, yo, yn, jl, pc, sv, bk, be)) : ∃ n, wY_init_186 post yP yC yA yL yQ yS yK yD n 0 ed cl py sk sa sb sc yi yv yo yn jl pc sv bk be := by
  refine loop_0 (fun n i a => wY_init_186 post yP yC yA yL yQ yS yK yD n (nI i) ed cl a sk sa sb sc yi yv yo yn jl pc sv bk be) (fun i a => a = dl_row (fun _ => -1) py i) 160 py (dl_row_0 _ _).symm ?_ ?_
  · intro n a ha
    subst ha
    exact br_t (nI_le (a := 160) (b := 160) (by omega) (by omega)) h
  · intro n i a hi ha ih
    subst ha
    refine br_f (nI_ge (b := 160) hi (by omega)) ?_
    rw [dl_c (show i < 2 ^ 31 by omega)]
    exact ⟨vp_in_nI (by omega) (by omega), nm_e (nm_r (nI_1 i) (ih _ (dl_row_s rfl)))⟩
theorem dl_zz : dl_zn (fun _ => 0) 4 = (fun _ => 0) := by
  funext x
  unfold dl_zn dl_zn dl_zn dl_zn dl_zn upd
  split
  · rfl
  · split
    · rfl
    · split
      · rfl
      · split <;> rfl
/-- an argument, clamped: what both sides come to -/
theorem dl_clamp (x : Int32) (lo hi : Nat) (hl : lo ≤ hi) (hh : hi < 2 ^ 31) : ∃ n, lo ≤ n ∧ n ≤ hi ∧ ((¬ nI lo ≤ x ∧ n = lo) ∨ (nI lo ≤ x ∧ ¬ x ≤ nI hi ∧ n = hi) ∨ (nI lo ≤ x ∧ x ≤ nI hi ∧ x = nI n)) := by
  by_cases a : nI lo ≤ x
  · by_cases b : x ≤ nI hi
    · have h0 : ¬ x < 0 := fun z => absurd (Int32.lt_of_le_of_lt a z) (nI_pos (by omega))
      obtain ⟨n, hn, e⟩ := nI_of h0
      subst e
      exact ⟨n, (nI_leI (by omega) hn).mp a, (nI_leI hn hh).mp b, Or.inr (Or.inr ⟨a, b, rfl⟩)⟩
    · exact ⟨hi, hl, Nat.le_refl _, Or.inr (Or.inl ⟨a, b, rfl⟩)⟩
  · exact ⟨lo, Nat.le_refl _, hl, Or.inl ⟨a, rfl⟩⟩
theorem dx_clamp {post : Int32 → Prop} {x : Int32} {lo hi n : Nat} (c : (¬ nI lo ≤ x ∧ n = lo) ∨ (nI lo ≤ x ∧ ¬ x ≤ nI hi ∧ n = hi) ∨ (nI lo ≤ x ∧ x ≤ nI hi ∧ x = nI n)) (h : post (nI n)) : wpX_clamp post x (nI lo) (nI hi) := by
  unfold wpX_clamp
  rcases c with ⟨a, e⟩ | ⟨a, b, e⟩ | ⟨a, b, e⟩
  · subst e
    exact br_f a h
  · subst e
    exact br_t a (br_f b h)
  · rw [← e] at h
    exact br_t a (br_t b h)
theorem dy_154 {post : SY → Prop} {z0 x : Int32} {n : Nat} (c : (¬ nI 8 ≤ x ∧ n = 8) ∨ (nI 8 ≤ x ∧ ¬ x ≤ nI 64 ∧ n = 64) ∨ (nI 8 ≤ x ∧ x ≤ nI 64 ∧ x = nI n)) (h : ∃ m, wY_init_186 post z0 (nI n) yA yL yQ yS yK yD m 0 ed cl py sk sa sb sc yi yv yo yn jl pc sv bk be) : wY_init_154 post x z0 yP yC yA yL yQ yS yK yD ed cl py sk sa sb sc yi yv yo yn jl pc sv bk be := by
  unfold wY_init_154
  rcases c with ⟨a, e⟩ | ⟨a, b, e⟩ | ⟨a, b, e⟩
  · subst e
    exact br_f a h
  · subst e
    exact br_t a (br_f b h)
  · rw [← e] at h
    exact br_t a (br_t b h)
theorem i_vc0 (k0 : Int32) (k1 : Int32) : wpX_init (fun u => wpY_init (fun v => i_Rel 2 u v) k0 k1) k0 k1 := by
  obtain ⟨P, P2, P8, cP⟩ := dl_clamp k0 2 8 (by omega) (by omega)
  obtain ⟨C, C8, C64, cC⟩ := dl_clamp k1 8 64 (by omega) (by omega)
  unfold wpX_init
  refine dx_clamp (lo := 2) (hi := 8) cP (dx_clamp (lo := 8) (hi := 64) cC (dx_pol P8 (fun p hp a ha => ?_) (fun A' hA => ?_)))
  · rw [b_0] at ha
    exact absurd ha (by decide)
  have fin : ∀ z0 : Int32, z0 = nI P → wY_init_154 (fun v => i_Rel 2 (nI P, nI C, 0, 0, 0, 0, 0, -1, fun _ => 0, A', dl_row (fun _ => -1) (fun _ => 0) 160, fun _ => 0, fun _ => 0, fun _ => 0, fun _ => 0, fun _ => 0, fun _ => 0, fun _ => 0, fun _ => 0, fun _ => 0, dl_zn (fun _ => 0) 4) v) k1 z0 0 0 0 0 0 0 0 0 (fun _ => 0) (fun _ => 0) (fun _ => 0) (fun _ => 0) (fun _ => 0) (fun _ => 0) (fun _ => 0) (fun _ => 0) (fun _ => 0) (fun _ => 0) (fun _ => 0) (fun _ => 0) (fun _ => 0) (fun _ => 0) (fun _ => 0) (fun _ => 0) := by
    intro z0 hz
    subst hz
    rw [dl_zz]
    refine dy_154 cC (dy_pol ?_)
    refine dl_mk (P := P) (C := C) (L := 0) (q := 0) (xS := 0) ⟨⟨P2, P8⟩, ⟨Nat.zero_le _, C64⟩, Nat.zero_le _, fun p hp a ha => ?_, hA, fun i j hi hj => ?_, fun i hi => absurd hi (by omega), fun c hc => ⟨0, by omega, rfl⟩, fun z => absurd rfl z⟩
    · rw [b_0] at ha
      exact absurd ha (by decide)
    · unfold dl_E
      rw [b_0]
      exact ⟨fun z => absurd rfl z, fun z => absurd z (by decide)⟩
  unfold wpY_init
  rcases cP with ⟨a, e⟩ | ⟨a, b, e⟩ | ⟨a, b, e⟩
  · exact br_f a (fin 2 (by rw [e]; rfl))
  · exact br_t a (br_f b (fin 8 (by rw [e]; rfl)))
  · exact br_t a (br_t b (fin k0 e))
end
