/-! the reference's private methods, each with a general post -/
section
variable {xP xC xA xL xO xQ xS xK yP yC yA yL yQ yS yK yD : Int32} {dA aA po st jm pl op el so ip va ov oc ed cl py sk sa sb sc yi yv yo yn jl pc sv bk be : Nat → Int32}
theorem dl_vb1 : vp_nar .boolean 1 = 1 := by decide
theorem dl_vb0 : vp_nar .boolean 0 = 0 := by decide
theorem dl_64 {a b : Nat} (ha : a < 8) (hb : b < 8) : a * 8 + b < 64 := by omega
theorem dy_reset {post : SY → Prop} (h : post (yP, yC, yA, yL, 0, 0, -1, yD, ed, cl, py, sk, sa, sb, sc, yi, yv, yo, dl_zn yn 4, jl, pc, sv, bk, be)) : wpY_reset post (yP, yC, yA, yL, yQ, yS, yK, yD, ed, cl, py, sk, sa, sb, sc, yi, yv, yo, yn, jl, pc, sv, bk, be) := by
  refine loop_0 (fun n i a => wY_reset_12 post yP yC yA yL 0 0 yK yD n (nI i) ed cl py sk sa sb sc yi yv yo a jl pc sv bk be) (fun i a => a = dl_zn yn i) 4 yn rfl ?_ ?_
  · intro n a ha
    subst ha
    exact br_t (nI_le (a := 4) (b := 4) (by omega) (by omega)) h
  · intro n i a hi ha ih
    subst ha
    refine br_f (nI_ge (b := 4) hi (by omega)) ⟨vp_in_nI hi (by omega), nm_r (e' := dl_zn yn (i + 1)) ?_ (nm_r (nI_1 i) (ih _ rfl))⟩
    rw [dl_c (by omega)]
    rfl
theorem dy_c72 {post : SY → Prop} {J : Int32 → (Nat → Int32) → (Nat → Int32) → (Nat → Int32) → (Nat → Int32) → (Nat → Int32) → (Nat → Int32) → (Nat → Int32) → (Nat → Int32) → (Nat → Int32) → (Nat → Int32) → (Nat → Int32) → (Nat → Int32) → (Nat → Int32) → (Nat → Int32) → (Nat → Int32) → (Nat → Int32) → Prop} {P r : Nat} {e : Nat → Nat → Prop} (h1 : 0 < P) (hP : P ≤ 8) (he : ∀ i j, i < P → j < P → (¬ ed (i * 8 + j) = 0 ↔ e i j)) (g : dl_C P e cl r) (h : ∀ C', dl_C P e C' (r + 1) → J (nI (r + 1)) ed C' py sk sa sb sc yi yv yo yn jl pc sv bk be) : ∃ n, wY_closure_72 post J (nI (P * P * P)) (nI r) (nI P) yC yA yL yQ yS yK yD n 0 ed cl py sk sa sb sc yi yv yo yn jl pc sv bk be := by
  have hPP : P * P ≤ 64 := Nat.mul_le_mul hP hP
  have hPPP : P * P * P ≤ 512 := Nat.mul_le_mul hPP hP
  have h0 : 0 < P * P := Nat.mul_pos h1 h1
  refine loop_0 (fun n t a => wY_closure_72 post J (nI (P * P * P)) (nI r) (nI P) yC yA yL yQ yS yK yD n (nI t) ed a py sk sa sb sc yi yv yo yn jl pc sv bk be) (fun t a => dl_Ci P e cl a t) (P * P * P) cl (dl_Ci0 g) ?_ ?_
  · intro n a ha
    exact br_t (nI_le (Nat.le_refl _) (by omega)) (nm_r (nI_1 r) (h a (dl_Cs g ha)))
  · intro n t a ht ha ih
    have hi : t / (P * P) < P := Nat.div_lt_of_lt_mul ht
    have hk : t / P % P < P := Nat.mod_lt _ h1
    have hj : t % P < P := Nat.mod_lt _ h1
    have ht2 : t < 2 ^ 31 := by omega
    have hd : t / P < 2 ^ 31 := Nat.lt_of_le_of_lt (Nat.div_le_self _ _) ht2
    have e1 : nI t / (nI P * nI P) = nI (t / (P * P)) := by
      rw [pk_mul]
      exact pk_div ht2 h0 (by omega)
    have e2 : nI t / nI P - nI t / nI P / nI P * nI P = nI (t / P % P) := by
      rw [pk_div ht2 h1 (by omega)]
      exact pk_rem hd h1 (by omega)
    have e3 : nI t - nI t / nI P * nI P = nI (t % P) := pk_rem ht2 h1 (by omega)
    have nz : ¬ nI P = 0 := nI_ne0 h1 (by omega)
    have nz2 : ¬ nI P * nI P = 0 := by
      rw [pk_mul]
      exact nI_ne0 h0 (by omega)
    have b1 := dl_64 (Nat.lt_of_lt_of_le hi hP) (Nat.lt_of_lt_of_le hk hP)
    have b2 := dl_64 (Nat.lt_of_lt_of_le hk hP) (Nat.lt_of_lt_of_le hj hP)
    have b3 := dl_64 (Nat.lt_of_lt_of_le hi hP) (Nat.lt_of_lt_of_le hj hP)
    have s1 := fun z => dl_Cis h1 hP ha (C' := a) (Or.inl ⟨rfl, z⟩) hi
    have s2 := fun z => dl_Cis h1 hP ha (C' := upd a (t / (P * P) * 8 + t % P) 1) (Or.inr ⟨rfl, z⟩) hi
    have hej := he _ _ hk hj
    refine br_f (nI_ge ht (by omega)) ⟨nz2, nm_r e1 ⟨nz, nz, nm_r e2 ⟨nz, nm_r e3 ?_⟩⟩⟩
    generalize t / (P * P) = x at *
    generalize t / P % P = y at *
    generalize t % P = w at *
    rw [dl_m8 x y, dl_m8 y w, dl_m8 x w, dl_c (show x * 8 + y < 2 ^ 31 by omega), dl_c (show y * 8 + w < 2 ^ 31 by omega), dl_c (show x * 8 + w < 2 ^ 31 by omega)]
    exact ⟨vp_in_nI b1 (by omega), br_c (fun z => nm_r (nI_1 t) (ih _ (s1 (fun q => q.1 z)))) (fun z => ⟨vp_in_nI b2 (by omega), br_c (fun u => nm_r (nI_1 t) (ih _ (s1 (fun q => hej.mpr q.2 u)))) (fun u => ⟨vp_in_nI b3 (by omega), nm_r (e' := upd a (x * 8 + w) 1) (by rw [dl_vb1]) (nm_r (nI_1 t) (ih _ (s2 ⟨z, hej.mp u⟩)))⟩)⟩)⟩
theorem dy_c62 {post : SY → Prop} {P : Nat} {e : Nat → Nat → Prop} (h1 : 0 < P) (hP : P ≤ 8) (he : ∀ i j, i < P → j < P → (¬ ed (i * 8 + j) = 0 ↔ e i j)) (g : dl_C P e cl 0) (h : ∀ C', dl_C P e C' P → post (nI P, yC, yA, yL, yQ, yS, yK, yD, ed, C', py, sk, sa, sb, sc, yi, yv, yo, yn, jl, pc, sv, bk, be)) : ∃ n, wY_closure_62 post (nI (P * P * P)) (nI P) yC yA yL yQ yS yK yD n 0 ed cl py sk sa sb sc yi yv yo yn jl pc sv bk be := by
  refine loop_0 (fun n r a => wY_closure_62 post (nI (P * P * P)) (nI P) yC yA yL yQ yS yK yD n (nI r) ed a py sk sa sb sc yi yv yo yn jl pc sv bk be) (fun r a => dl_C P e a r) P cl g ?_ ?_
  · intro n a ha
    exact br_t (nI_le (Nat.le_refl _) (by omega)) (h a ha)
  · intro n r a hr ha ih
    exact br_f (nI_ge hr (by omega)) (dy_c72 h1 hP he ha (fun C' hC => ih C' hC))
theorem dy_close {post : SY → Prop} {P : Nat} {e : Nat → Nat → Prop} (h1 : 0 < P) (hP : P ≤ 8) (he : ∀ i j, i < P → j < P → (¬ ed (i * 8 + j) = 0 ↔ e i j)) (h : ∀ C', dl_C P e C' P → post (nI P, yC, yA, yL, yQ, yS, yK, yD, ed, C', py, sk, sa, sb, sc, yi, yv, yo, yn, jl, pc, sv, bk, be)) : wpY_closure post (nI P, yC, yA, yL, yQ, yS, yK, yD, ed, cl, py, sk, sa, sb, sc, yi, yv, yo, yn, jl, pc, sv, bk, be) := by
  refine loop_0 (fun n x a => wY_closure_2 post (nI P) yC yA yL yQ yS yK yD n (nI x) ed a py sk sa sb sc yi yv yo yn jl pc sv bk be) (fun x a => ∀ y, y < x → (a y = 0 ∨ a y = 1) ∧ (¬ a y = 0 ↔ y / 8 = y % 8 ∨ ¬ ed y = 0)) 64 cl (fun y hy => absurd hy (by omega)) ?_ ?_
  · intro n a ha
    refine br_t (nI_le (a := 64) (b := 64) (by omega) (by omega)) (nm_r (e' := nI (P * P * P)) (by rw [pk_mul, pk_mul]) (dy_c62 h1 hP he (dl_C0 hP (fun x hx => (ha x hx).1) (fun i j hi hj => ?_)) h))
    have q := (ha (i * 8 + j) (by omega)).2
    have e1 : (i * 8 + j) / 8 = i := by omega
    have e2 : (i * 8 + j) % 8 = j := by omega
    rw [e1, e2, he i j hi hj] at q
    exact q
  · intro n x a hx ha ih
    have d : nI x / 8 = nI (x / 8) := pk_div (d := 8) (by omega) (by omega) (by omega)
    have r : nI x - nI x / 8 * 8 = nI (x % 8) := pk_rem (d := 8) (by omega) (by omega) (by omega)
    have v : vp_in (nI x) 64 := vp_in_nI hx (by omega)
    have nx : ∀ z : Int32, (z = 0 ∨ z = 1) → (¬ z = 0 ↔ x / 8 = x % 8 ∨ ¬ ed x = 0) → wY_closure_2 post (nI P) yC yA yL yQ yS yK yD n (nI (x + 1)) ed (upd a x z) py sk sa sb sc yi yv yo yn jl pc sv bk be := by
      intro z z1 z2
      refine ih _ (fun y hy => ?_)
      by_cases e : y = x
      · subst e
        rw [pk_us]
        exact ⟨z1, z2⟩
      · rw [pk_un e]
        exact ha y (by omega)
    refine br_f (nI_ge (b := 64) hx (by omega)) ⟨by decide, by decide, ?_⟩
    rw [r, d, dl_c (show x < 2 ^ 31 by omega), dl_vb1, dl_vb0]
    have q : nI (x / 8) = nI (x % 8) ↔ x / 8 = x % 8 := nI_eq (by omega) (by omega)
    refine br_c (fun z => ⟨v, nm_e (nm_r (nI_1 x) (nx 1 (Or.inr rfl) ⟨fun _ => Or.inl (q.mp z), fun _ => by decide⟩))⟩) (fun z => ⟨v, br_c (fun y => ⟨v, nm_e (nm_r (nI_1 x) (nx 0 (Or.inl rfl) ⟨fun w => absurd rfl w, fun w => w.elim (fun u => absurd (q.mpr u) z) (fun u => absurd y u)⟩))⟩) (fun y => ⟨v, nm_e (nm_r (nI_1 x) (nx 1 (Or.inr rfl) ⟨fun _ => Or.inr y, fun _ => by decide⟩))⟩)⟩)
theorem dl_CAof {P : Nat} {D A C : Nat → Int32} (hA : dl_A P D A) (hC : dl_C P (dl_E D) C P) : dl_CA P C A := by
  intro i j hi hj
  rw [hA j hj i]
  constructor
  · intro h
    exact ⟨hi, hC.2.1 i j hi hj h⟩
  · intro h
    obtain ⟨n, hn, hr⟩ := dl_short hi hj h.2
    exact hC.2.2 n i j (by omega) hi hj hr
theorem dy_eff {post : Int32 → Prop} {P o : Nat} {r : Int32} {D A : Nat → Int32} (hP : P ≤ 8) (ho : o < P) (hA : dl_A P D A) (hc : dl_CA P cl A) (h : post (dl_e A o r P)) : wpY_eff post (nI P, yC, yA, yL, yQ, yS, yK, yD, ed, cl, py, sk, sa, sb, sc, yi, yv, yo, yn, jl, pc, sv, bk, be) (nI o) r := by
  refine loop_0 (fun n q m => wY_eff_5 post (nI o) r (nI P) yC yA yL yQ yS yK yD ed cl py sk sa sb sc yi yv yo yn jl pc sv bk be n m (nI q)) (fun q m => ∀ i, i < 32 → (bt m i = true ↔ i < q ∧ dl_in P cl o r i)) P 0 ?_ ?_ ?_
  · intro i hi
    rw [b_0]
    exact ⟨fun z => absurd z (by decide), fun z => absurd z.1 (by omega)⟩
  · intro n m hm
    refine br_t (nI_le (Nat.le_refl _) (by omega)) ?_
    rw [dl_mask hA hc ho hm]
    exact h
  · intro n q m hq hm ih
    refine br_f (nI_ge hq (by omega)) ?_
    rw [dl_m8 q o, dl_c (show q * 8 + o < 2 ^ 31 by omega)]
    refine ⟨vp_in_nI (by omega) (by omega), nm_e ?_⟩
    refine loop_0 (fun n' s z => wY_eff_31 post (wY_eff_5 post (nI o) r (nI P) yC yA yL yQ yS yK yD ed cl py sk sa sb sc yi yv yo yn jl pc sv bk be n) (nI o) r m (nI q) (nI P) yC yA yL yQ yS yK yD ed cl py sk sa sb sc yi yv yo yn jl pc sv bk be n' z (nI s)) (fun s z => (¬ z = 0 ↔ ¬ cl (q * 8 + o) = 0 ∨ ∃ s', s' < s ∧ bt r s' = true ∧ ¬ cl (q * 8 + s') = 0)) P (cl (q * 8 + o)) ?_ ?_ ?_
    · exact ⟨Or.inl, fun z => z.elim (fun y => y) (fun ⟨_, w, _⟩ => absurd w (by omega))⟩
    · intro n' z hz
      have hz2 : ¬ z = 0 ↔ dl_in P cl o r q := hz
      refine br_t (nI_le (Nat.le_refl _) (by omega)) (br_c (fun y => nm_r (nI_1 q) (ih _ ?_)) (fun y => nm_e (nm_r (nI_1 q) (ih _ ?_))))
      · intro i hi
        rw [hm i hi]
        refine ⟨fun w => ⟨by omega, w.2⟩, fun w => ⟨?_, w.2⟩⟩
        by_cases e : i = q
        · subst e
          exact absurd y (hz2.mpr w.2)
        · omega
      · intro i hi
        rw [b_or, dl_one (by omega) hi, Bool.or_eq_true, hm i hi, decide_eq_true_iff]
        constructor
        · intro w
          rcases w with w | w
          · exact ⟨by omega, w.2⟩
          · subst w
            exact ⟨by omega, hz2.mp y⟩
        · intro w
          by_cases e : i = q
          · exact Or.inr e
          · exact Or.inl ⟨by omega, w.2⟩
    · intro n' s z hs hz ih'
      have up : ∀ z' : Int32, (¬ z' = 0 ↔ (¬ z = 0 ∨ (bt r s = true ∧ ¬ cl (q * 8 + s) = 0))) → wY_eff_31 post (wY_eff_5 post (nI o) r (nI P) yC yA yL yQ yS yK yD ed cl py sk sa sb sc yi yv yo yn jl pc sv bk be n) (nI o) r m (nI q) (nI P) yC yA yL yQ yS yK yD ed cl py sk sa sb sc yi yv yo yn jl pc sv bk be n' z' (nI (s + 1)) := by
        intro z' hz'
        refine ih' z' ?_
        rw [hz', hz]
        constructor
        · rintro ((w | ⟨s', w1, w2⟩) | w)
          · exact Or.inl w
          · exact Or.inr ⟨s', by omega, w2⟩
          · exact Or.inr ⟨s, by omega, w⟩
        · rintro (w | ⟨s', w1, w2⟩)
          · exact Or.inl (Or.inl w)
          · by_cases e : s' = s
            · subst e
              exact Or.inr w2
            · exact Or.inl (Or.inr ⟨s', by omega, w2⟩)
      refine br_f (nI_ge hs (by omega)) (br_c (fun y => nm_r (nI_1 s) (up z ⟨Or.inl, fun w => w.elim (fun u => u) (fun u => absurd u.1 (by rw [(dl_bs (by omega)).mp y]; decide))⟩)) (fun y => ?_))
      rw [dl_m8 q s, dl_c (show q * 8 + s < 2 ^ 31 by omega)]
      exact ⟨vp_in_nI (by omega) (by omega), br_c (fun w => nm_r (nI_1 s) (up z ⟨Or.inl, fun u => u.elim (fun t => t) (fun t => absurd w t.2)⟩)) (fun w => nm_r (nI_1 s) (up 1 ⟨fun _ => Or.inr ⟨dl_nt (fun u => y ((dl_bs (by omega)).mpr u)), w⟩, fun _ => by decide⟩))⟩
theorem dy_rd {post : Int32 → SY → Prop} {P t p : Nat} {D A : Nat → Int32} (hP : P ≤ 8) (ht : t < 20) (hp : p < P) (hA : dl_A P D A) (hc : dl_CA P cl A) (h1 : dl_rd P A py t p → post 1 (nI P, yC, yA, yL, yQ, yS, yK, yD, ed, cl, py, sk, sa, sb, sc, yi, yv, yo, yn, jl, pc, sv, bk, be)) (h0 : ¬ dl_rd P A py t p → post 0 (nI P, yC, yA, yL, yQ, yS, yK, yD, ed, cl, py, sk, sa, sb, sc, yi, yv, yo, yn, jl, pc, sv, bk, be)) : ∃ n, wY_canRead_26 post (nI p) (nI t) (nI P) yC yA yL yQ yS yK yD ed cl py sk sa sb sc yi yv yo yn jl pc sv bk be n 0 := by
  refine loop_0 (fun n i (_ : Unit) => wY_canRead_26 post (nI p) (nI t) (nI P) yC yA yL yQ yS yK yD ed cl py sk sa sb sc yi yv yo yn jl pc sv bk be n (nI i)) (fun i _ => ∀ o, o < i → ¬ py (t * 8 + o) = -1 → bt (dl_e A o (py (t * 8 + o)) P) p = true) P () (fun o ho => absurd ho (by omega)) ?_ ?_
  · intro n _ ha
    exact br_t (nI_le (Nat.le_refl _) (by omega)) (h1 ha)
  · intro n i _ hi ha ih
    have nx : ∀ z : ¬ py (t * 8 + i) = -1 → bt (dl_e A i (py (t * 8 + i)) P) p = true, ∀ o, o < i + 1 → ¬ py (t * 8 + o) = -1 → bt (dl_e A o (py (t * 8 + o)) P) p = true := by
      intro z o ho
      by_cases e : o = i
      · subst e
        exact z
      · exact ha o (by omega)
    refine br_f (nI_ge hi (by omega)) ?_
    rw [dl_m8, dl_c (show t * 8 + i < 2 ^ 31 by omega)]
    refine ⟨vp_in_nI (by omega) (by omega), nm_e (br_c (fun z => nm_r (nI_1 i) (ih () (nx (fun w => absurd z w)))) (fun z => dy_eff hP hi hA hc (br_c (fun hb => h0 (fun w => ?_)) (fun hb => nm_r (nI_1 i) (ih () (nx (fun _ => dl_nt (fun w => hb ((dl_bs (by omega)).mpr w))))))))) ⟩
    have q := (dl_bs (by omega)).mp hb
    rw [w i hi z] at q
    exact absurd q (by decide)
/-! flows -/
theorem dl_au {P o : Nat} {D A : Nat → Int32} {d : Int32} (ho : o < P) (hP : P ≤ 8) (hA : dl_A P D A) : (A o &&& d) = 0 ↔ ¬ ∃ a, a < P ∧ bt d a = true ∧ bt (A o) a = true := by
  constructor
  · rintro h ⟨a, h1, h2, h3⟩
    have t : bt (A o &&& d) a = bt 0 a := by rw [h]
    rw [b_and, b_0, h2, h3] at t
    exact absurd t (by decide)
  · intro h
    apply b_ext
    intro i hi
    rw [b_and, b_0]
    by_cases e : bt (A o) i = true
    · by_cases f : bt d i = true
      · exact absurd ⟨i, ((hA o ho i).mp e).1, f, e⟩ h
      · rw [dl_nf f, Bool.and_false]
    · rw [dl_nf e, Bool.false_and]
theorem dy_f99 {post : Int32 → Prop} {J : Int32 → Prop} {x2 : Int32} {P t o : Nat} {r : Int32} {D A : Nat → Int32} (hP : P ≤ 8) (ht : t < 20) (ho : o < P) (hA : dl_A P D A) (hc : dl_CA P cl A) (h1 : dl_kp P A py t o r → J (nI (o + 1))) (h0 : ¬ dl_kp P A py t o r → post 0) : ∃ n, wY_flows_99 post J (nI t) x2 (nI o) (dl_e A o r P) (nI P) yC yA yL yQ yS yK yD ed cl py sk sa sb sc yi yv yo yn jl pc sv bk be n 0 0 := by
  refine loop_0 (fun n i z => wY_flows_99 post J (nI t) x2 (nI o) (dl_e A o r P) (nI P) yC yA yL yQ yS yK yD ed cl py sk sa sb sc yi yv yo yn jl pc sv bk be n z (nI i)) (fun i z => (¬ z = 0 ↔ ∃ k, k < i ∧ ¬ py (t * 8 + k) = -1 ∧ bt (A o) k = true ∧ (dl_e A k (py (t * 8 + k)) P &&& (dl_e A o r P ^^^ (-1))) = 0)) P 0 ?_ ?_ ?_
  · exact ⟨fun z => absurd rfl z, fun ⟨_, w, _⟩ => absurd w (by omega)⟩
  · intro n z hz
    exact br_t (nI_le (Nat.le_refl _) (by omega)) (br_c (fun y => h0 (fun w => hz.mpr w y)) (fun y => nm_r (nI_1 o) (h1 (hz.mp y))))
  · intro n i z hi hz ih
    have up : ∀ z' : Int32, (¬ z' = 0 ↔ (¬ z = 0 ∨ (¬ py (t * 8 + i) = -1 ∧ bt (A o) i = true ∧ (dl_e A i (py (t * 8 + i)) P &&& (dl_e A o r P ^^^ (-1))) = 0))) → wY_flows_99 post J (nI t) x2 (nI o) (dl_e A o r P) (nI P) yC yA yL yQ yS yK yD ed cl py sk sa sb sc yi yv yo yn jl pc sv bk be n z' (nI (i + 1)) := by
      intro z' hz'
      refine ih z' ?_
      rw [hz', hz]
      constructor
      · rintro (⟨k, w1, w2⟩ | w)
        · exact ⟨k, by omega, w2⟩
        · exact ⟨i, by omega, w⟩
      · rintro ⟨k, w1, w2⟩
        by_cases e : k = i
        · subst e
          exact Or.inr w2
        · exact Or.inl ⟨k, by omega, w2⟩
    have hio := hc i o hi ho
    refine br_f (nI_ge hi (by omega)) ?_
    rw [dl_m8 t i, dl_m8 i o, dl_c (show t * 8 + i < 2 ^ 31 by omega), dl_c (show i * 8 + o < 2 ^ 31 by omega)]
    exact ⟨vp_in_nI (by omega) (by omega), nm_e (br_c (fun y => nm_r (nI_1 i) (up z ⟨Or.inl, fun w => w.elim (fun u => u) (fun u => absurd y u.1)⟩)) (fun y => ⟨vp_in_nI (by omega) (by omega), br_c (fun w => nm_r (nI_1 i) (up z ⟨Or.inl, fun v => v.elim (fun u => u) (fun u => absurd w (hio.mpr u.2.1))⟩)) (fun w => dy_eff hP hi hA hc (br_c (fun v => nm_r (nI_1 i) (up 1 ⟨fun _ => Or.inr ⟨y, hio.mp w, v⟩, fun _ => by decide⟩)) (fun v => nm_r (nI_1 i) (up z ⟨Or.inl, fun q => q.elim (fun u => u) (fun u => absurd u.2.2 v)⟩))))⟩))⟩
theorem dy_f78 {post : Int32 → Prop} {J : Int32 → Prop} {x2 : Int32} {P t o : Nat} {D A : Nat → Int32} (hP : P ≤ 8) (ht : t < 20) (ho : o < P) (hA : dl_A P D A) (hc : dl_CA P cl A) (h1 : dl_kp P A py t o (jl o) → J (nI (o + 1))) (h0 : ¬ dl_kp P A py t o (jl o) → post 0) : wY_flows_78 post J (nI t) x2 (nI o) 0 (nI P) yC yA yL yQ yS yK yD ed cl py sk sa sb sc yi yv yo yn jl pc sv bk be := by
  unfold wY_flows_78
  rw [dl_c (show o < 2 ^ 31 by omega)]
  exact br_t rfl ⟨vp_in_nI (by omega) (by omega), dy_eff hP ho hA hc (dy_f99 hP ht ho hA hc h1 h0)⟩
theorem dy_f33 {post : Int32 → Prop} {J : Int32 → Prop} {x2 : Int32} {P t o : Nat} {D A : Nat → Int32} (hP : P ≤ 8) (ht : t < 20) (ho : o < P) (hA : dl_A P D A) (hc : dl_CA P cl A) (h1 : ((A o &&& yA) = 0 → dl_kp P A py t o (jl o)) → J (nI (o + 1))) (h0 : (A o &&& yA) = 0 → ¬ dl_kp P A py t o (jl o) → post 0) : ∃ n, wY_flows_33 post J (nI t) x2 (nI o) (nI P) yC yA yL yQ yS yK yD ed cl py sk sa sb sc yi yv yo yn jl pc sv bk be n 0 0 := by
  refine loop_0 (fun n i z => wY_flows_33 post J (nI t) x2 (nI o) (nI P) yC yA yL yQ yS yK yD ed cl py sk sa sb sc yi yv yo yn jl pc sv bk be n z (nI i)) (fun i z => (¬ z = 0 ↔ ∃ a, a < i ∧ bt yA a = true ∧ bt (A o) a = true) ∧ (z = 0 ∨ z = 1)) P 0 ?_ ?_ ?_
  · exact ⟨⟨fun z => absurd rfl z, fun ⟨_, w, _⟩ => absurd w (by omega)⟩, Or.inl rfl⟩
  · intro n z hz
    refine br_t (nI_le (Nat.le_refl _) (by omega)) ?_
    rcases hz.2 with e | e
    · subst e
      have q : (A o &&& yA) = 0 := (dl_au ho hP hA).mpr (fun w => hz.1.mpr w rfl)
      exact dy_f78 hP ht ho hA hc (fun k => h1 (fun _ => k)) (fun k => h0 q k)
    · subst e
      have q : ¬ (A o &&& yA) = 0 := fun w => (dl_au ho hP hA).mp w (hz.1.mp (by decide))
      exact br_f (by decide) (br_f (by decide) (nm_r (nI_1 o) (h1 (fun w => absurd w q))))
  · intro n i z hi hz ih
    have up : ∀ z' : Int32, (¬ z' = 0 ↔ (¬ z = 0 ∨ (bt yA i = true ∧ bt (A o) i = true))) → (z' = 0 ∨ z' = 1) → wY_flows_33 post J (nI t) x2 (nI o) (nI P) yC yA yL yQ yS yK yD ed cl py sk sa sb sc yi yv yo yn jl pc sv bk be n z' (nI (i + 1)) := by
      intro z' hz' h01
      refine ih z' ⟨?_, h01⟩
      rw [hz', hz.1]
      constructor
      · rintro (⟨k, w1, w2⟩ | w)
        · exact ⟨k, by omega, w2⟩
        · exact ⟨i, by omega, w⟩
      · rintro ⟨k, w1, w2⟩
        by_cases e : k = i
        · subst e
          exact Or.inr w2
        · exact Or.inl ⟨k, by omega, w2⟩
    have hio := hc i o hi ho
    refine br_f (nI_ge hi (by omega)) ?_
    rw [dl_m8 i o, dl_c (show i * 8 + o < 2 ^ 31 by omega)]
    exact br_c (fun y => nm_r (nI_1 i) (up z ⟨Or.inl, fun w => w.elim (fun u => u) (fun u => absurd u.1 (by rw [(dl_bs (by omega)).mp y]; decide))⟩ hz.2)) (fun y => ⟨vp_in_nI (by omega) (by omega), br_c (fun w => nm_r (nI_1 i) (up z ⟨Or.inl, fun v => v.elim (fun u => u) (fun u => absurd w (hio.mpr u.2))⟩ hz.2)) (fun w => nm_r (nI_1 i) (up 1 ⟨fun _ => Or.inr ⟨dl_nt (fun u => y ((dl_bs (by omega)).mpr u)), hio.mp w⟩, fun _ => by decide⟩ (Or.inr rfl)))⟩)
theorem dy_flows0 {post : Int32 → Prop} {P t : Nat} {D A : Nat → Int32} (hP : P ≤ 8) (ht : t < 20) (hA : dl_A P D A) (hc : dl_CA P cl A) (h1 : dl_fl P A py jl t 0 → post 1) (h0 : ¬ dl_fl P A py jl t 0 → post 0) : wpY_flows post (nI P, yC, yA, yL, yQ, yS, yK, yD, ed, cl, py, sk, sa, sb, sc, yi, yv, yo, yn, jl, pc, sv, bk, be) (nI t) 0 := by
  refine loop_0 (fun n i (_ : Unit) => wY_flows_2 post (nI t) 0 (nI P) yC yA yL yQ yS yK yD ed cl py sk sa sb sc yi yv yo yn jl pc sv bk be n (nI i)) (fun i _ => ∀ o, o < i → ¬ jl o = -1 → (A o &&& 0) = 0 → dl_kp P A py t o (jl o)) P () (fun o ho => absurd ho (by omega)) ?_ ?_
  · intro n _ ha
    exact br_t (nI_le (Nat.le_refl _) (by omega)) (h1 ha)
  · intro n i _ hi ha ih
    have nx : (¬ jl i = -1 → (A i &&& 0) = 0 → dl_kp P A py t i (jl i)) → wY_flows_2 post (nI t) 0 (nI P) yC yA yL yQ yS yK yD ed cl py sk sa sb sc yi yv yo yn jl pc sv bk be n (nI (i + 1)) := by
      intro z
      refine ih () (fun k hk => ?_)
      by_cases e : k = i
      · subst e
        exact z
      · exact ha k (by omega)
    have z0 : (A i &&& 0) = 0 := Int32.and_zero
    refine br_f (nI_ge hi (by omega)) ⟨vp_in_nI (by omega) (by omega), ?_⟩
    rw [dl_c (show i < 2 ^ 31 by omega)]
    exact br_c (fun z => nm_r (nI_1 i) (nx (fun w => absurd z w))) (fun z => br_t rfl (dy_f78 hP ht hi hA hc (fun k => nx (fun _ _ => k)) (fun k => h0 (fun w => k (w i hi z z0)))))
theorem dy_flows1 {post : Int32 → Prop} {P t : Nat} {D A : Nat → Int32} (hP : P ≤ 8) (ht : t < 20) (hA : dl_A P D A) (hc : dl_CA P cl A) (h1 : dl_fl P A py jl t yA → post 1) (h0 : ¬ dl_fl P A py jl t yA → post 0) : wpY_flows post (nI P, yC, yA, yL, yQ, yS, yK, yD, ed, cl, py, sk, sa, sb, sc, yi, yv, yo, yn, jl, pc, sv, bk, be) (nI t) 1 := by
  refine loop_0 (fun n i (_ : Unit) => wY_flows_2 post (nI t) 1 (nI P) yC yA yL yQ yS yK yD ed cl py sk sa sb sc yi yv yo yn jl pc sv bk be n (nI i)) (fun i _ => ∀ o, o < i → ¬ jl o = -1 → (A o &&& yA) = 0 → dl_kp P A py t o (jl o)) P () (fun o ho => absurd ho (by omega)) ?_ ?_
  · intro n _ ha
    exact br_t (nI_le (Nat.le_refl _) (by omega)) (h1 ha)
  · intro n i _ hi ha ih
    have nx : (¬ jl i = -1 → (A i &&& yA) = 0 → dl_kp P A py t i (jl i)) → wY_flows_2 post (nI t) 1 (nI P) yC yA yL yQ yS yK yD ed cl py sk sa sb sc yi yv yo yn jl pc sv bk be n (nI (i + 1)) := by
      intro z
      refine ih () (fun k hk => ?_)
      by_cases e : k = i
      · subst e
        exact z
      · exact ha k (by omega)
    refine br_f (nI_ge hi (by omega)) ⟨vp_in_nI (by omega) (by omega), ?_⟩
    rw [dl_c (show i < 2 ^ 31 by omega)]
    exact br_c (fun z => nm_r (nI_1 i) (nx (fun w => absurd z w))) (fun z => br_f (by decide) (dy_f33 hP ht hi hA hc (fun k => nx (fun _ => k)) (fun y k => h0 (fun w => k (w i hi z y)))))
/-! rows of labels -/
def dl_Y0 (jl : Nat → Int32) : Nat → Int32 := dl_row (fun _ => -1) jl 8
def dl_Yp (pc jl : Nat → Int32) (P : Nat) : Nat → Int32 := dl_row (fun o => jl o &&& pc o) jl P
def dl_Yt (py jl : Nat → Int32) (P t : Nat) : Nat → Int32 := dl_row (fun o => jl o &&& py (t * 8 + o)) jl P
theorem dl_am (x : Int32) : x &&& (-1) = x := by
  apply b_ext
  intro i hi
  rw [b_and, b_m1 i hi, Bool.and_true]
theorem dl_ma (x : Int32) : (-1) &&& x = x := by
  apply b_ext
  intro i hi
  rw [b_and, b_m1 i hi, Bool.true_and]
theorem dy_clear {post : SY → Prop} (h : post (yP, yC, yA, yL, yQ, yS, yK, yD, ed, cl, py, sk, sa, sb, sc, yi, yv, yo, yn, dl_Y0 jl, pc, sv, bk, be)) : wpY_clearJoin post (yP, yC, yA, yL, yQ, yS, yK, yD, ed, cl, py, sk, sa, sb, sc, yi, yv, yo, yn, jl, pc, sv, bk, be) := by
  refine loop_0 (fun n i a => wY_clearJoin_2 post yP yC yA yL yQ yS yK yD n (nI i) ed cl py sk sa sb sc yi yv yo yn a pc sv bk be) (fun i a => a = dl_row (fun _ => -1) jl i) 8 jl (dl_row_0 _ _).symm ?_ ?_
  · intro n a ha
    subst ha
    exact br_t (nI_le (a := 8) (b := 8) (by omega) (by omega)) h
  · intro n i a hi ha ih
    subst ha
    refine br_f (nI_ge (b := 8) hi (by omega)) ?_
    rw [dl_c (show i < 2 ^ 31 by omega)]
    exact ⟨vp_in_nI (by omega) (by omega), nm_e (nm_r (nI_1 i) (ih _ (dl_row_s rfl)))⟩
theorem dy_joinPc {post : SY → Prop} {P : Nat} (hP : P ≤ 8) (h : post (nI P, yC, yA, yL, yQ, yS, yK, yD, ed, cl, py, sk, sa, sb, sc, yi, yv, yo, yn, dl_Yp pc jl P, pc, sv, bk, be)) : wpY_joinPc post (nI P, yC, yA, yL, yQ, yS, yK, yD, ed, cl, py, sk, sa, sb, sc, yi, yv, yo, yn, jl, pc, sv, bk, be) := by
  refine loop_0 (fun n i a => wY_joinPc_2 post (nI P) yC yA yL yQ yS yK yD n (nI i) ed cl py sk sa sb sc yi yv yo yn a pc sv bk be) (fun i a => a = dl_row (fun o => jl o &&& pc o) jl i) P jl (dl_row_0 _ _).symm ?_ ?_
  · intro n a ha
    subst ha
    exact br_t (nI_le (Nat.le_refl _) (by omega)) h
  · intro n i a hi ha ih
    subst ha
    have v : vp_in (nI i) 8 := vp_in_nI (by omega) (by omega)
    refine br_f (nI_ge hi (by omega)) ⟨v, ?_⟩
    rw [dl_c (show i < 2 ^ 31 by omega), dl_row_n]
    exact nm_e (br_c (fun z => nm_r (nI_1 i) (ih _ (dl_row_k (by show jl i = jl i &&& pc i; rw [z, dl_am])))) (fun z => ⟨v, br_c (fun y => ⟨v, nm_e (nm_r (nI_1 i) (ih _ (dl_row_s (by show pc i = jl i &&& pc i; rw [y, dl_ma]))))⟩) (fun y => ⟨v, v, nm_e (nm_r (nI_1 i) (ih _ (dl_row_s rfl)))⟩)⟩))
theorem dy_joinT {post : SY → Prop} {P t : Nat} (hP : P ≤ 8) (ht : t < 20) (h : post (nI P, yC, yA, yL, yQ, yS, yK, yD, ed, cl, py, sk, sa, sb, sc, yi, yv, yo, yn, dl_Yt py jl P t, pc, sv, bk, be)) : wpY_joinTarget post (nI P, yC, yA, yL, yQ, yS, yK, yD, ed, cl, py, sk, sa, sb, sc, yi, yv, yo, yn, jl, pc, sv, bk, be) (nI t) := by
  refine loop_0 (fun n i a => wY_joinTarget_2 post (nI t) (nI P) yC yA yL yQ yS yK yD n (nI i) ed cl py sk sa sb sc yi yv yo yn a pc sv bk be) (fun i a => a = dl_row (fun o => jl o &&& py (t * 8 + o)) jl i) P jl (dl_row_0 _ _).symm ?_ ?_
  · intro n a ha
    subst ha
    exact br_t (nI_le (Nat.le_refl _) (by omega)) h
  · intro n i a hi ha ih
    subst ha
    have v : vp_in (nI i) 8 := vp_in_nI (by omega) (by omega)
    refine br_f (nI_ge hi (by omega)) ?_
    rw [dl_m8 t i, dl_c (show t * 8 + i < 2 ^ 31 by omega), dl_c (show i < 2 ^ 31 by omega), dl_row_n]
    exact ⟨vp_in_nI (by omega) (by omega), nm_e (br_c (fun z => nm_r (nI_1 i) (ih _ (dl_row_k (by show jl i = jl i &&& py (t * 8 + i); rw [z, dl_am])))) (fun z => ⟨v, br_c (fun y => ⟨v, nm_e (nm_r (nI_1 i) (ih _ (dl_row_s (by show py (t * 8 + i) = jl i &&& py (t * 8 + i); rw [y, dl_ma]))))⟩) (fun y => ⟨v, v, nm_e (nm_r (nI_1 i) (ih _ (dl_row_s rfl)))⟩)⟩))⟩
end
