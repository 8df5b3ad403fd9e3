/-! a whole check, both sides -/
section
variable {xP xC xA xL xO xQ xS xK yP yC yA yL yQ yS yK yD : Int32} {dA aA po st jm pl op el so ip va ov oc ed cl py sk sa sb sc yi yv yo yn jl pc sv bk be : Nat → Int32}
theorem dl_m256 (c i : Nat) : nI c * 256 + nI i = nI (c * 256 + i) := by
  rw [← nI_add, ← pk_mul]
  rfl
theorem dl_1280 (n : Nat) : (1280 : Int32) + nI n = nI (1280 + n) := nI_add 1280 n
theorem dx_first {post : Int32 → SX → Prop} (h : ∃ n, wX_firstError_28 post n 0 xP xC xA xL 0 xQ xS xK dA aA po st jm (dl_row (fun _ => -1) pl 8) op el so ip va ov oc) : wpX_firstError post (xP, xC, xA, xL, xO, xQ, xS, xK, dA, aA, po, st, jm, pl, op, el, so, ip, va, ov, oc) := by
  unfold wpX_firstError
  refine loop_0 (fun n i a => wX_firstError_7 post xP xC xA xL 0 xQ xS xK n (nI i) dA aA po st jm a op el so ip va ov oc) (fun i a => a = dl_row (fun _ => -1) pl i) 8 pl (dl_row_0 _ _).symm ?_ ?_
  · intro n a ha
    subst ha
    exact br_t (nI_le (a := 8) (b := 8) (by omega) (by omega)) h
  · intro n i a hi ha ih
    subst ha
    refine br_f (nI_ge (b := 8) hi (by omega)) ?_
    rw [dl_c (show i < 2 ^ 31 by omega)]
    exact ⟨vp_in_nI (by omega) (by omega), nm_e (nm_r (nI_1 i) (ih _ (dl_row_s rfl)))⟩
theorem dy_first {post : Int32 → SY → Prop} (h : ∃ n, wY_check_38 post 0 n 0 yP yC yA yL yQ yS yK 0 ed cl py sk sa sb sc yi yv yo yn jl (dl_row (fun _ => -1) pc 8) sv bk be) : ∃ n, wY_check_15 post yP yC yA yL yQ yS yK 0 n 0 ed cl py sk sa sb sc yi yv yo yn jl pc sv bk be := by
  refine loop_0 (fun n i a => wY_check_15 post yP yC yA yL yQ yS yK 0 n (nI i) ed cl py sk sa sb sc yi yv yo yn jl a sv bk be) (fun i a => a = dl_row (fun _ => -1) pc i) 8 pc (dl_row_0 _ _).symm ?_ ?_
  · intro n a ha
    subst ha
    exact br_t (nI_le (a := 8) (b := 8) (by omega) (by omega)) h
  · intro n i a hi ha ih
    subst ha
    refine br_f (nI_ge (b := 8) hi (by omega)) ?_
    rw [dl_c (show i < 2 ^ 31 by omega)]
    exact ⟨vp_in_nI (by omega) (by omega), nm_e (nm_r (nI_1 i) (ih _ (dl_row_s rfl)))⟩
theorem dl_chk {P L : Nat} (hP : P ≤ 8) (hL : L ≤ 64) (hA : dl_A P dA aA) (hp : dl_P L st sk sa sb sc) : ∀ (d i D : Nat) (jm pl op el so jl pc sv bk be : Nat → Int32), i + d = L → dl_CR P L i D sk pl op el jm pc sv bk be → ∃ (r : Int32) (D' : Nat) (jm' pl' op' el' so' jl' pc' sv' bk' be' : Nat → Int32), (r = 0 → ∀ q, q < L → dl_ct (sk q) → jm' q = dl_tg sk L q) ∧ (∀ post : Int32 → SX → Prop, post r (nI P, xC, xA, nI L, nI D', xQ, xS, xK, dA, aA, po, st, jm', pl', op', el', so', ip, va, ov, oc) → wX_firstError_28 post (d + 1) (nI i) (nI P) xC xA (nI L) (nI D) xQ xS xK dA aA po st jm pl op el so ip va ov oc) ∧ (∀ cl' : Nat → Int32, dl_CA P cl' aA → ∀ post : Int32 → SY → Prop, wY_check_93 post r (nI P) yC xA (nI L) yQ yS yK (nI D') ed cl' po sk sa sb sc yi yv yo yn jl' pc' sv' bk' be' → wY_check_38 post 0 (d + 1) (nI i) (nI P) yC xA (nI L) yQ yS yK (nI D) ed cl' po sk sa sb sc yi yv yo yn jl pc sv bk be) := by
  intro d
  induction d with
  | zero =>
    intro i D jm pl op el so jl pc sv bk be hd h
    have e : i = L := by omega
    subst e
    have le : nI i ≤ nI i := nI_le (Nat.le_refl _) (by omega)
    cases D with
    | zero => exact ⟨0, 0, jm, pl, op, el, so, jl, pc, sv, bk, be, fun _ => dl_K_fin h.2.2.2.2.2, fun post q => br_t le (br_t nI_0 q), fun cl' hc post q => br_t le (br_t rfl (br_t (by rw [nI_0]; decide) q))⟩
    | succ D =>
      have hD := h.1
      exact ⟨1280 + nI i, D + 1, jm, pl, op, el, so, jl, pc, sv, bk, be, fun z => absurd z (by rw [dl_1280]; exact nI_ne0 (by omega) (by omega)), fun post q => br_t le (br_f (nI_ne0 (by omega) (by omega)) q), fun cl' hc post q => br_t le (br_t rfl (br_f (nI_nle (by omega) (by omega)) (nm_e q)))⟩
  | succ d ih =>
    intro i D jm pl op el so jl pc sv bk be hd h
    have hi : i < L := by omega
    obtain ⟨r, D', jm', pl', op', el', so', jl', pc', sv', bk', be', hr, hcr, hx, hy⟩ := dl_g (xC := xC) (xA := xA) (xQ := xQ) (xS := xS) (xK := xK) (yC := yC) (yQ := yQ) (yS := yS) (yK := yK) (po := po) (so := so) (ip := ip) (va := va) (ov := ov) (oc := oc) (ed := ed) (yi := yi) (yv := yv) (yo := yo) (yn := yn) (jl := jl) hP hL hi hA h hp
    have nle : ¬ nI L ≤ nI i := nI_ge hi (by omega)
    rcases hr with hr | ⟨c, c1, c4, hr⟩
    · obtain ⟨r2, D2, jm2, pl2, op2, el2, so2, jl2, pc2, sv2, bk2, be2, h1, h2, h3⟩ := ih (i + 1) D' jm' pl' op' el' so' jl' pc' sv' bk' be' (by omega) (hcr hr)
      exact ⟨r2, D2, jm2, pl2, op2, el2, so2, jl2, pc2, sv2, bk2, be2, h1, fun post q => br_f nle (hx _ (br_t hr (nm_r (nI_1 i) (h2 post q)))), fun cl' hc post q => br_f nle (hy cl' hc _ (br_t hr (nm_r (nI_1 i) (h3 cl' hc post q))))⟩
    · have nz : ¬ r = 0 := by
        rw [hr]
        exact nI_ne0 (by omega) (by omega)
      have nz2 : ¬ r * 256 + nI i = 0 := by
        rw [hr, dl_m256]
        exact nI_ne0 (by omega) (by omega)
      exact ⟨r * 256 + nI i, D', jm', pl', op', el', so', jl', pc', sv', bk', be', fun z => absurd z nz2, fun post q => br_f nle (hx _ (br_f nz q)), fun cl' hc post q => br_f nle (hy cl' hc _ (br_f nz (nm_e (br_f nz2 q))))⟩
theorem dl_CR0 {P L : Nat} (hP : P ≤ 8) : dl_CR P L 0 0 sk (dl_row (fun _ => -1) pl 8) op el jm (dl_row (fun _ => -1) pc 8) sv bk be := by
  refine ⟨by omega, fun o ho => ?_, fun d hd => absurd hd (by omega), fun d hd => absurd hd (by omega), fun d hd => absurd hd (by omega), dl_K0 _ _ _ _ _⟩
  rw [dl_row_l (by omega), dl_row_l (by omega)]
end
