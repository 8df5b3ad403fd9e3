/-! one statement of a check: the reference, then both sides -/
section
variable {xP xC xA xL xO xQ xS xK yP yC yA yL yQ yS yK yD : Int32} {dA aA po st jm pl op el so ip va ov oc ed cl py sk sa sb sc yi yv yo yn jl pc sv bk be : Nat → Int32}
theorem dy_st1 {P i t : Nat} {post : Int32 → SY → Prop} {D A : Nat → Int32} (hP : P ≤ 8) (hi : i < 64) (hA : dl_A P D A) (hc : dl_CA P cl A) (hk : sk i = 1) (ha : sa i = nI t) (ht : t < 20) (h0 : dl_fl P A py (dl_Yp pc (dl_Y0 jl) P) t 0 → post 0 (nI P, yC, yA, yL, yQ, yS, yK, yD, ed, cl, py, sk, sa, sb, sc, yi, yv, yo, yn, dl_Yp pc (dl_Y0 jl) P, pc, sv, bk, be)) (h3 : ¬ dl_fl P A py (dl_Yp pc (dl_Y0 jl) P) t 0 → post 3 (nI P, yC, yA, yL, yQ, yS, yK, yD, ed, cl, py, sk, sa, sb, sc, yi, yv, yo, yn, dl_Yp pc (dl_Y0 jl) P, pc, sv, bk, be)) : wpY_checkOne post (nI P, yC, yA, yL, yQ, yS, yK, yD, ed, cl, py, sk, sa, sb, sc, yi, yv, yo, yn, jl, pc, sv, bk, be) (nI i) := by
  unfold wpY_checkOne
  have v : vp_in (nI i) 64 := vp_in_nI hi (by omega)
  have c := dl_c (show i < 2 ^ 31 by omega)
  refine ⟨v, nm_r (e' := 1) (by rw [c]; exact hk) ⟨v, nm_r (e' := nI t) (by rw [c]; exact ha) ⟨v, nm_e ⟨v, nm_e (br_f (by decide) (br_f (by decide) (br_f (by decide) (br_f (by decide) (dy_clear (dy_joinPc hP (br_t rfl (dy_flows0 hP ht hA hc (fun z => br_f (by decide) (h0 z)) (fun z => br_t rfl (h3 z))))))))))⟩⟩⟩⟩
theorem dy_st2 {P i t b : Nat} {post : Int32 → SY → Prop} {D A : Nat → Int32} (hP : P ≤ 8) (hi : i < 64) (hA : dl_A P D A) (hc : dl_CA P cl A) (hk : sk i = 2) (ha : sa i = nI t) (hb : sb i = nI b) (ht : t < 20) (hb' : b < 20) (h0 : dl_fl P A py (dl_Yt py (dl_Yp pc (dl_Y0 jl) P) P b) t 0 → post 0 (nI P, yC, yA, yL, yQ, yS, yK, yD, ed, cl, py, sk, sa, sb, sc, yi, yv, yo, yn, dl_Yt py (dl_Yp pc (dl_Y0 jl) P) P b, pc, sv, bk, be)) (h3 : ¬ dl_fl P A py (dl_Yt py (dl_Yp pc (dl_Y0 jl) P) P b) t 0 → post 3 (nI P, yC, yA, yL, yQ, yS, yK, yD, ed, cl, py, sk, sa, sb, sc, yi, yv, yo, yn, dl_Yt py (dl_Yp pc (dl_Y0 jl) P) P b, pc, sv, bk, be)) : wpY_checkOne post (nI P, yC, yA, yL, yQ, yS, yK, yD, ed, cl, py, sk, sa, sb, sc, yi, yv, yo, yn, jl, pc, sv, bk, be) (nI i) := by
  unfold wpY_checkOne
  have v : vp_in (nI i) 64 := vp_in_nI hi (by omega)
  have c := dl_c (show i < 2 ^ 31 by omega)
  refine ⟨v, nm_r (e' := 2) (by rw [c]; exact hk) ⟨v, nm_r (e' := nI t) (by rw [c]; exact ha) ⟨v, nm_r (e' := nI b) (by rw [c]; exact hb) ⟨v, nm_e (br_f (by decide) (br_f (by decide) (br_f (by decide) (br_f (by decide) (dy_clear (dy_joinPc hP (br_f (by decide) (br_t rfl (dy_joinT hP hb' (dy_flows0 hP ht hA hc (fun z => br_f (by decide) (h0 z)) (fun z => br_t rfl (h3 z))))))))))))⟩⟩⟩⟩
theorem dy_st3 {P i t b c2 : Nat} {post : Int32 → SY → Prop} {D A : Nat → Int32} (hP : P ≤ 8) (hi : i < 64) (hA : dl_A P D A) (hc : dl_CA P cl A) (hk : sk i = 3) (ha : sa i = nI t) (hb : sb i = nI b) (hc2 : sc i = nI c2) (ht : t < 20) (hb' : b < 20) (hc' : c2 < 20) (h0 : dl_fl P A py (dl_Yt py (dl_Yt py (dl_Yp pc (dl_Y0 jl) P) P b) P c2) t 0 → post 0 (nI P, yC, yA, yL, yQ, yS, yK, yD, ed, cl, py, sk, sa, sb, sc, yi, yv, yo, yn, dl_Yt py (dl_Yt py (dl_Yp pc (dl_Y0 jl) P) P b) P c2, pc, sv, bk, be)) (h3 : ¬ dl_fl P A py (dl_Yt py (dl_Yt py (dl_Yp pc (dl_Y0 jl) P) P b) P c2) t 0 → post 3 (nI P, yC, yA, yL, yQ, yS, yK, yD, ed, cl, py, sk, sa, sb, sc, yi, yv, yo, yn, dl_Yt py (dl_Yt py (dl_Yp pc (dl_Y0 jl) P) P b) P c2, pc, sv, bk, be)) : wpY_checkOne post (nI P, yC, yA, yL, yQ, yS, yK, yD, ed, cl, py, sk, sa, sb, sc, yi, yv, yo, yn, jl, pc, sv, bk, be) (nI i) := by
  unfold wpY_checkOne
  have v : vp_in (nI i) 64 := vp_in_nI hi (by omega)
  have c := dl_c (show i < 2 ^ 31 by omega)
  refine ⟨v, nm_r (e' := 3) (by rw [c]; exact hk) ⟨v, nm_r (e' := nI t) (by rw [c]; exact ha) ⟨v, nm_r (e' := nI b) (by rw [c]; exact hb) ⟨v, nm_r (e' := nI c2) (by rw [c]; exact hc2) (br_f (by decide) (br_f (by decide) (br_f (by decide) (br_f (by decide) (dy_clear (dy_joinPc hP (br_f (by decide) (br_f (by decide) (br_f (by decide) (br_f (by decide) (dy_joinT hP hb' (dy_joinT hP hc' (dy_flows0 hP ht hA hc (fun z => br_f (by decide) (h0 z)) (fun z => br_t rfl (h3 z)))))))))))))))⟩⟩⟩⟩
theorem dy_st4 {P i t b c2 : Nat} {post : Int32 → SY → Prop} {D A : Nat → Int32} (hP : P ≤ 8) (hi : i < 64) (hA : dl_A P D A) (hc : dl_CA P cl A) (hk : sk i = 4) (ha : sa i = nI t) (hb : sb i = nI b) (hc2 : sc i = nI c2) (ht : t < 20) (hb' : b < 20) (hc' : c2 < 20) (h0 : dl_fl P A py (dl_Yt py (dl_Yt py (dl_Yp pc (dl_Y0 jl) P) P b) P c2) t 0 → post 0 (nI P, yC, yA, yL, yQ, yS, yK, yD, ed, cl, py, sk, sa, sb, sc, yi, yv, yo, yn, dl_Yt py (dl_Yt py (dl_Yp pc (dl_Y0 jl) P) P b) P c2, pc, sv, bk, be)) (h3 : ¬ dl_fl P A py (dl_Yt py (dl_Yt py (dl_Yp pc (dl_Y0 jl) P) P b) P c2) t 0 → post 3 (nI P, yC, yA, yL, yQ, yS, yK, yD, ed, cl, py, sk, sa, sb, sc, yi, yv, yo, yn, dl_Yt py (dl_Yt py (dl_Yp pc (dl_Y0 jl) P) P b) P c2, pc, sv, bk, be)) : wpY_checkOne post (nI P, yC, yA, yL, yQ, yS, yK, yD, ed, cl, py, sk, sa, sb, sc, yi, yv, yo, yn, jl, pc, sv, bk, be) (nI i) := by
  unfold wpY_checkOne
  have v : vp_in (nI i) 64 := vp_in_nI hi (by omega)
  have c := dl_c (show i < 2 ^ 31 by omega)
  refine ⟨v, nm_r (e' := 4) (by rw [c]; exact hk) ⟨v, nm_r (e' := nI t) (by rw [c]; exact ha) ⟨v, nm_r (e' := nI b) (by rw [c]; exact hb) ⟨v, nm_r (e' := nI c2) (by rw [c]; exact hc2) (br_f (by decide) (br_f (by decide) (br_f (by decide) (br_f (by decide) (dy_clear (dy_joinPc hP (br_f (by decide) (br_f (by decide) (br_f (by decide) (br_f (by decide) (dy_joinT hP hb' (dy_joinT hP hc' (dy_flows0 hP ht hA hc (fun z => br_f (by decide) (h0 z)) (fun z => br_t rfl (h3 z)))))))))))))))⟩⟩⟩⟩
theorem dy_st5 {P i t b c2 : Nat} {post : Int32 → SY → Prop} {D A : Nat → Int32} (hP : P ≤ 8) (hi : i < 64) (hA : dl_A P D A) (hc : dl_CA P cl A) (hk : sk i = 5) (ha : sa i = nI t) (hb : sb i = nI b) (hc2 : sc i = nI c2) (ht : t < 20) (hb' : b < 20) (hc' : c2 < 20) (h0 : dl_fl P A py (dl_Yt py (dl_Yt py (dl_Yp pc (dl_Y0 jl) P) P b) P c2) t 0 → post 0 (nI P, yC, yA, yL, yQ, yS, yK, yD, ed, cl, py, sk, sa, sb, sc, yi, yv, yo, yn, dl_Yt py (dl_Yt py (dl_Yp pc (dl_Y0 jl) P) P b) P c2, pc, sv, bk, be)) (h3 : ¬ dl_fl P A py (dl_Yt py (dl_Yt py (dl_Yp pc (dl_Y0 jl) P) P b) P c2) t 0 → post 3 (nI P, yC, yA, yL, yQ, yS, yK, yD, ed, cl, py, sk, sa, sb, sc, yi, yv, yo, yn, dl_Yt py (dl_Yt py (dl_Yp pc (dl_Y0 jl) P) P b) P c2, pc, sv, bk, be)) : wpY_checkOne post (nI P, yC, yA, yL, yQ, yS, yK, yD, ed, cl, py, sk, sa, sb, sc, yi, yv, yo, yn, jl, pc, sv, bk, be) (nI i) := by
  unfold wpY_checkOne
  have v : vp_in (nI i) 64 := vp_in_nI hi (by omega)
  have c := dl_c (show i < 2 ^ 31 by omega)
  refine ⟨v, nm_r (e' := 5) (by rw [c]; exact hk) ⟨v, nm_r (e' := nI t) (by rw [c]; exact ha) ⟨v, nm_r (e' := nI b) (by rw [c]; exact hb) ⟨v, nm_r (e' := nI c2) (by rw [c]; exact hc2) (br_f (by decide) (br_f (by decide) (br_f (by decide) (br_f (by decide) (dy_clear (dy_joinPc hP (br_f (by decide) (br_f (by decide) (br_f (by decide) (br_f (by decide) (dy_joinT hP hb' (dy_joinT hP hc' (dy_flows0 hP ht hA hc (fun z => br_f (by decide) (h0 z)) (fun z => br_t rfl (h3 z)))))))))))))))⟩⟩⟩⟩
theorem dy_st6 {P i t b c2 : Nat} {post : Int32 → SY → Prop} {D A : Nat → Int32} (hP : P ≤ 8) (hi : i < 64) (hA : dl_A P D A) (hc : dl_CA P cl A) (hk : sk i = 6) (ha : sa i = nI t) (hb : sb i = nI b) (hc2 : sc i = nI c2) (ht : t < 20) (hb' : b < 20) (hc' : c2 < 20) (h0 : dl_fl P A py (dl_Yt py (dl_Yt py (dl_Yp pc (dl_Y0 jl) P) P b) P c2) t 0 → post 0 (nI P, yC, yA, yL, yQ, yS, yK, yD, ed, cl, py, sk, sa, sb, sc, yi, yv, yo, yn, dl_Yt py (dl_Yt py (dl_Yp pc (dl_Y0 jl) P) P b) P c2, pc, sv, bk, be)) (h3 : ¬ dl_fl P A py (dl_Yt py (dl_Yt py (dl_Yp pc (dl_Y0 jl) P) P b) P c2) t 0 → post 3 (nI P, yC, yA, yL, yQ, yS, yK, yD, ed, cl, py, sk, sa, sb, sc, yi, yv, yo, yn, dl_Yt py (dl_Yt py (dl_Yp pc (dl_Y0 jl) P) P b) P c2, pc, sv, bk, be)) : wpY_checkOne post (nI P, yC, yA, yL, yQ, yS, yK, yD, ed, cl, py, sk, sa, sb, sc, yi, yv, yo, yn, jl, pc, sv, bk, be) (nI i) := by
  unfold wpY_checkOne
  have v : vp_in (nI i) 64 := vp_in_nI hi (by omega)
  have c := dl_c (show i < 2 ^ 31 by omega)
  refine ⟨v, nm_r (e' := 6) (by rw [c]; exact hk) ⟨v, nm_r (e' := nI t) (by rw [c]; exact ha) ⟨v, nm_r (e' := nI b) (by rw [c]; exact hb) ⟨v, nm_r (e' := nI c2) (by rw [c]; exact hc2) (br_f (by decide) (br_f (by decide) (br_f (by decide) (br_f (by decide) (dy_clear (dy_joinPc hP (br_f (by decide) (br_f (by decide) (br_f (by decide) (br_f (by decide) (dy_joinT hP hb' (dy_joinT hP hc' (dy_flows0 hP ht hA hc (fun z => br_f (by decide) (h0 z)) (fun z => br_t rfl (h3 z)))))))))))))))⟩⟩⟩⟩
theorem dy_st7 {P i t b c2 : Nat} {post : Int32 → SY → Prop} {D A : Nat → Int32} (hP : P ≤ 8) (hi : i < 64) (hA : dl_A P D A) (hc : dl_CA P cl A) (hk : sk i = 7) (ha : sa i = nI t) (hb : sb i = nI b) (hc2 : sc i = nI c2) (ht : t < 20) (hb' : b < 20) (hc' : c2 < 20) (h0 : dl_fl P A py (dl_Yt py (dl_Yt py (dl_Yp pc (dl_Y0 jl) P) P b) P c2) t 0 → post 0 (nI P, yC, yA, yL, yQ, yS, yK, yD, ed, cl, py, sk, sa, sb, sc, yi, yv, yo, yn, dl_Yt py (dl_Yt py (dl_Yp pc (dl_Y0 jl) P) P b) P c2, pc, sv, bk, be)) (h3 : ¬ dl_fl P A py (dl_Yt py (dl_Yt py (dl_Yp pc (dl_Y0 jl) P) P b) P c2) t 0 → post 3 (nI P, yC, yA, yL, yQ, yS, yK, yD, ed, cl, py, sk, sa, sb, sc, yi, yv, yo, yn, dl_Yt py (dl_Yt py (dl_Yp pc (dl_Y0 jl) P) P b) P c2, pc, sv, bk, be)) : wpY_checkOne post (nI P, yC, yA, yL, yQ, yS, yK, yD, ed, cl, py, sk, sa, sb, sc, yi, yv, yo, yn, jl, pc, sv, bk, be) (nI i) := by
  unfold wpY_checkOne
  have v : vp_in (nI i) 64 := vp_in_nI hi (by omega)
  have c := dl_c (show i < 2 ^ 31 by omega)
  refine ⟨v, nm_r (e' := 7) (by rw [c]; exact hk) ⟨v, nm_r (e' := nI t) (by rw [c]; exact ha) ⟨v, nm_r (e' := nI b) (by rw [c]; exact hb) ⟨v, nm_r (e' := nI c2) (by rw [c]; exact hc2) (br_f (by decide) (br_f (by decide) (br_f (by decide) (br_f (by decide) (dy_clear (dy_joinPc hP (br_f (by decide) (br_f (by decide) (br_f (by decide) (br_f (by decide) (dy_joinT hP hb' (dy_joinT hP hc' (dy_flows0 hP ht hA hc (fun z => br_f (by decide) (h0 z)) (fun z => br_t rfl (h3 z)))))))))))))))⟩⟩⟩⟩
theorem dy_st12 {P i t b : Nat} {post : Int32 → SY → Prop} {D A : Nat → Int32} (hP : P ≤ 8) (hi : i < 64) (hA : dl_A P D A) (hc : dl_CA P cl A) (hk : sk i = 12) (ha : sa i = nI t) (hb : sb i = nI b) (ht : t < 4) (hb' : b < 20) (h0 : dl_fl P A py (dl_Yt py (dl_Yp pc (dl_Y0 jl) P) P b) (16 + t) 0 → post 0 (nI P, yC, yA, yL, yQ, yS, yK, yD, ed, cl, py, sk, sa, sb, sc, yi, yv, yo, yn, dl_Yt py (dl_Yp pc (dl_Y0 jl) P) P b, pc, sv, bk, be)) (h3 : ¬ dl_fl P A py (dl_Yt py (dl_Yp pc (dl_Y0 jl) P) P b) (16 + t) 0 → post 3 (nI P, yC, yA, yL, yQ, yS, yK, yD, ed, cl, py, sk, sa, sb, sc, yi, yv, yo, yn, dl_Yt py (dl_Yp pc (dl_Y0 jl) P) P b, pc, sv, bk, be)) : wpY_checkOne post (nI P, yC, yA, yL, yQ, yS, yK, yD, ed, cl, py, sk, sa, sb, sc, yi, yv, yo, yn, jl, pc, sv, bk, be) (nI i) := by
  unfold wpY_checkOne
  have v : vp_in (nI i) 64 := vp_in_nI hi (by omega)
  have c := dl_c (show i < 2 ^ 31 by omega)
  refine ⟨v, nm_r (e' := 12) (by rw [c]; exact hk) ⟨v, nm_r (e' := nI t) (by rw [c]; exact ha) ⟨v, nm_r (e' := nI b) (by rw [c]; exact hb) ⟨v, nm_e (br_f (by decide) (br_f (by decide) (br_f (by decide) (br_f (by decide) (dy_clear (dy_joinPc hP (br_f (by decide) (br_f (by decide) (br_f (by decide) (br_t (by decide) (br_t rfl (dy_joinT hP hb' ?_))))))))))))⟩⟩⟩⟩
  have e16 : (16 : Int32) + nI t = nI (16 + t) := nI_add 16 t
  show wpY_flows _ _ (16 + nI t) 0
  rw [e16]
  exact dy_flows0 hP (by omega) hA hc (fun z => br_f (by decide) (h0 z)) (fun z => br_t rfl (h3 z))
theorem dy_st13 {P i t b : Nat} {post : Int32 → SY → Prop} {D A : Nat → Int32} (hP : P ≤ 8) (hi : i < 64) (hA : dl_A P D A) (hc : dl_CA P cl A) (hk : sk i = 13) (ha : sa i = nI t) (hb : sb i = nI b) (ht : t < 20) (hb' : b < 20) (h3 : ¬ dl_fl P A py (dl_Yp pc (dl_Y0 jl) P) t 0 → post 3 (nI P, yC, yA, yL, yQ, yS, yK, yD, ed, cl, py, sk, sa, sb, sc, yi, yv, yo, yn, dl_Yp pc (dl_Y0 jl) P, pc, sv, bk, be)) (h4 : dl_fl P A py (dl_Yp pc (dl_Y0 jl) P) t 0 → ¬ dl_fl P A py (dl_Yt py (dl_Y0 (dl_Yp pc (dl_Y0 jl) P)) P b) t yA → post 4 (nI P, yC, yA, yL, yQ, yS, yK, yD, ed, cl, py, sk, sa, sb, sc, yi, yv, yo, yn, dl_Yt py (dl_Y0 (dl_Yp pc (dl_Y0 jl) P)) P b, pc, sv, bk, be)) (h0 : dl_fl P A py (dl_Yp pc (dl_Y0 jl) P) t 0 → dl_fl P A py (dl_Yt py (dl_Y0 (dl_Yp pc (dl_Y0 jl) P)) P b) t yA → post 0 (nI P, yC, yA, yL, yQ, yS, yK, yD, ed, cl, py, sk, sa, sb, sc, yi, yv, yo, yn, dl_Yt py (dl_Y0 (dl_Yp pc (dl_Y0 jl) P)) P b, pc, sv, bk, be)) : wpY_checkOne post (nI P, yC, yA, yL, yQ, yS, yK, yD, ed, cl, py, sk, sa, sb, sc, yi, yv, yo, yn, jl, pc, sv, bk, be) (nI i) := by
  unfold wpY_checkOne
  have v : vp_in (nI i) 64 := vp_in_nI hi (by omega)
  have c := dl_c (show i < 2 ^ 31 by omega)
  refine ⟨v, nm_r (e' := 13) (by rw [c]; exact hk) ⟨v, nm_r (e' := nI t) (by rw [c]; exact ha) ⟨v, nm_r (e' := nI b) (by rw [c]; exact hb) ⟨v, nm_e (br_f (by decide) (br_f (by decide) (br_f (by decide) (br_f (by decide) (dy_clear (dy_joinPc hP (br_f (by decide) (br_f (by decide) (br_f (by decide) (br_t (by decide) (br_f (by decide) (dy_flows0 hP ht hA hc (fun z => br_f (by decide) (dy_clear (dy_joinT hP hb' (dy_flows1 hP ht hA hc (fun y => br_f (by decide) (h0 z y)) (fun y => br_t rfl (h4 z y)))))) (fun z => br_t rfl (h3 z))))))))))))))⟩⟩⟩⟩
theorem dy_open {post : Int32 → SY → Prop} {P dd t : Nat} {kk : Int32} (hP : P ≤ 8) (hD : dd < 8) (ht : t < 20) (h : post 0 (nI P, yC, yA, yL, yQ, yS, yK, nI (dd + 1), ed, cl, py, sk, sa, sb, sc, yi, yv, yo, yn, dl_Yt py (dl_Yp pc (dl_Y0 jl) P) P t, dl_row (dl_Yt py (dl_Yp pc (dl_Y0 jl) P) P t) pc 8, dl_seg pc sv (dd * 8) 8, upd bk dd kk, upd be dd 0)) : wY_checkOne_42 post kk (nI t) (nI P) yC yA yL yQ yS yK (nI dd) ed cl py sk sa sb sc yi yv yo yn jl pc sv bk be := by
  unfold wY_checkOne_42
  have cD := dl_c (show dd < 2 ^ 31 by omega)
  have vD : vp_in (nI dd) 8 := vp_in_nI hD (by omega)
  refine br_t (nI_lt (b := 8) hD (by omega)) ?_
  refine loop_0 (fun n k a => wY_checkOne_56 post kk (nI t) (nI P) yC yA yL yQ yS yK (nI dd) n (nI k) ed cl py sk sa sb sc yi yv yo yn jl pc a bk be) (fun k a => a = dl_seg pc sv (dd * 8) k) 8 sv (dl_seg_0 _ _ _).symm ?_ ?_
  · intro n a ha
    subst ha
    refine br_t (nI_le (a := 8) (b := 8) (by omega) (by omega)) ⟨vD, nm_r (e' := upd bk dd kk) (by rw [cD]) ⟨vD, nm_r (e' := upd be dd 0) (by rw [cD, dl_vb0]) (nm_r (nI_1 dd) (dy_clear (dy_joinPc hP (dy_joinT hP ht ?_))))⟩⟩
    refine loop_0 (fun n k a => wY_checkOne_137 post (nI P) yC yA yL yQ yS yK (nI (dd + 1)) n (nI k) ed cl py sk sa sb sc yi yv yo yn (dl_Yt py (dl_Yp pc (dl_Y0 jl) P) P t) a (dl_seg pc sv (dd * 8) 8) (upd bk dd kk) (upd be dd 0)) (fun k a => a = dl_row (dl_Yt py (dl_Yp pc (dl_Y0 jl) P) P t) pc k) 8 pc (dl_row_0 _ _).symm ?_ ?_
    · intro n a ha
      subst ha
      exact br_t (nI_le (a := 8) (b := 8) (by omega) (by omega)) h
    · intro n k a hk ha ih
      subst ha
      refine br_f (nI_ge (b := 8) hk (by omega)) ?_
      rw [dl_c (show k < 2 ^ 31 by omega)]
      exact ⟨vp_in_nI hk (by omega), vp_in_nI hk (by omega), nm_e (nm_r (nI_1 k) (ih _ (dl_row_s rfl)))⟩
  · intro n k a hk ha ih
    subst ha
    refine br_f (nI_ge (b := 8) hk (by omega)) ?_
    rw [dl_m8, dl_c (show dd * 8 + k < 2 ^ 31 by omega), dl_c (show k < 2 ^ 31 by omega)]
    exact ⟨vp_in_nI (by omega) (by omega), vp_in_nI (by omega) (by omega), nm_e (nm_r (nI_1 k) (ih _ (dl_seg_s rfl)))⟩
theorem dy_st8 {post : Int32 → SY → Prop} {P dd i t : Nat} (hP : P ≤ 8) (hD : dd < 8) (hi : i < 64) (hk : sk i = 8) (ha : sa i = nI t) (ht : t < 20) (h : post 0 (nI P, yC, yA, yL, yQ, yS, yK, nI (dd + 1), ed, cl, py, sk, sa, sb, sc, yi, yv, yo, yn, dl_Yt py (dl_Yp pc (dl_Y0 jl) P) P t, dl_row (dl_Yt py (dl_Yp pc (dl_Y0 jl) P) P t) pc 8, dl_seg pc sv (dd * 8) 8, upd bk dd 8, upd be dd 0)) : wpY_checkOne post (nI P, yC, yA, yL, yQ, yS, yK, nI dd, ed, cl, py, sk, sa, sb, sc, yi, yv, yo, yn, jl, pc, sv, bk, be) (nI i) := by
  unfold wpY_checkOne
  have v : vp_in (nI i) 64 := vp_in_nI hi (by omega)
  have c := dl_c (show i < 2 ^ 31 by omega)
  refine ⟨v, nm_r (e' := 8) (by rw [c]; exact hk) ⟨v, nm_r (e' := nI t) (by rw [c]; exact ha) ⟨v, nm_e ⟨v, nm_e (br_t rfl (dy_open hP hD ht h))⟩⟩⟩⟩
theorem dy_st88 {post : Int32 → SY → Prop} {i : Nat} (hi : i < 64) (hk : sk i = 8) (h : post 2 (yP, yC, yA, yL, yQ, yS, yK, nI 8, ed, cl, py, sk, sa, sb, sc, yi, yv, yo, yn, jl, pc, sv, bk, be)) : wpY_checkOne post (yP, yC, yA, yL, yQ, yS, yK, nI 8, ed, cl, py, sk, sa, sb, sc, yi, yv, yo, yn, jl, pc, sv, bk, be) (nI i) := by
  unfold wpY_checkOne
  have v : vp_in (nI i) 64 := vp_in_nI hi (by omega)
  have c := dl_c (show i < 2 ^ 31 by omega)
  refine ⟨v, nm_r (e' := 8) (by rw [c]; exact hk) ⟨v, nm_e ⟨v, nm_e ⟨v, nm_e (br_t rfl (br_f (nI_nlt (b := 8) (Nat.le_refl _) (by omega)) h))⟩⟩⟩⟩
theorem dy_st11 {post : Int32 → SY → Prop} {P dd i t : Nat} (hP : P ≤ 8) (hD : dd < 8) (hi : i < 64) (hk : sk i = 11) (ha : sa i = nI t) (ht : t < 20) (h : post 0 (nI P, yC, yA, yL, yQ, yS, yK, nI (dd + 1), ed, cl, py, sk, sa, sb, sc, yi, yv, yo, yn, dl_Yt py (dl_Yp pc (dl_Y0 jl) P) P t, dl_row (dl_Yt py (dl_Yp pc (dl_Y0 jl) P) P t) pc 8, dl_seg pc sv (dd * 8) 8, upd bk dd 11, upd be dd 0)) : wpY_checkOne post (nI P, yC, yA, yL, yQ, yS, yK, nI dd, ed, cl, py, sk, sa, sb, sc, yi, yv, yo, yn, jl, pc, sv, bk, be) (nI i) := by
  unfold wpY_checkOne
  have v : vp_in (nI i) 64 := vp_in_nI hi (by omega)
  have c := dl_c (show i < 2 ^ 31 by omega)
  refine ⟨v, nm_r (e' := 11) (by rw [c]; exact hk) ⟨v, nm_r (e' := nI t) (by rw [c]; exact ha) ⟨v, nm_e ⟨v, nm_e (br_f (by decide) (br_t rfl (dy_open hP hD ht h)))⟩⟩⟩⟩
theorem dy_st118 {post : Int32 → SY → Prop} {i : Nat} (hi : i < 64) (hk : sk i = 11) (h : post 2 (yP, yC, yA, yL, yQ, yS, yK, nI 8, ed, cl, py, sk, sa, sb, sc, yi, yv, yo, yn, jl, pc, sv, bk, be)) : wpY_checkOne post (yP, yC, yA, yL, yQ, yS, yK, nI 8, ed, cl, py, sk, sa, sb, sc, yi, yv, yo, yn, jl, pc, sv, bk, be) (nI i) := by
  unfold wpY_checkOne
  have v : vp_in (nI i) 64 := vp_in_nI hi (by omega)
  have c := dl_c (show i < 2 ^ 31 by omega)
  refine ⟨v, nm_r (e' := 11) (by rw [c]; exact hk) ⟨v, nm_e ⟨v, nm_e ⟨v, nm_e (br_f (by decide) (br_t rfl (br_f (nI_nlt (b := 8) (Nat.le_refl _) (by omega)) h)))⟩⟩⟩⟩
theorem dy_st90 {post : Int32 → SY → Prop} {i : Nat} (hi : i < 64) (hk : sk i = 9) (h : post 1 (yP, yC, yA, yL, yQ, yS, yK, nI 0, ed, cl, py, sk, sa, sb, sc, yi, yv, yo, yn, jl, pc, sv, bk, be)) : wpY_checkOne post (yP, yC, yA, yL, yQ, yS, yK, nI 0, ed, cl, py, sk, sa, sb, sc, yi, yv, yo, yn, jl, pc, sv, bk, be) (nI i) := by
  unfold wpY_checkOne
  have v : vp_in (nI i) 64 := vp_in_nI hi (by omega)
  have c := dl_c (show i < 2 ^ 31 by omega)
  refine ⟨v, nm_r (e' := 9) (by rw [c]; exact hk) ⟨v, nm_e ⟨v, nm_e ⟨v, nm_e (br_f (by decide) (br_f (by decide) (br_t rfl (br_t nI_0 h))))⟩⟩⟩⟩
theorem dy_st9 {post : Int32 → SY → Prop} {dd i : Nat} (hD : dd < 8) (hi : i < 64) (hk : sk i = 9) (h1 : (bk dd = 11 ∨ ¬ be dd = 0) → post 1 (yP, yC, yA, yL, yQ, yS, yK, nI (dd + 1), ed, cl, py, sk, sa, sb, sc, yi, yv, yo, yn, jl, pc, sv, bk, be)) (h0 : ¬ bk dd = 11 → be dd = 0 → post 0 (yP, yC, yA, yL, yQ, yS, yK, nI (dd + 1), ed, cl, py, sk, sa, sb, sc, yi, yv, yo, yn, jl, pc, sv, bk, upd be dd 1)) : wpY_checkOne post (yP, yC, yA, yL, yQ, yS, yK, nI (dd + 1), ed, cl, py, sk, sa, sb, sc, yi, yv, yo, yn, jl, pc, sv, bk, be) (nI i) := by
  unfold wpY_checkOne
  have v : vp_in (nI i) 64 := vp_in_nI hi (by omega)
  have c := dl_c (show i < 2 ^ 31 by omega)
  refine ⟨v, nm_r (e' := 9) (by rw [c]; exact hk) ⟨v, nm_e ⟨v, nm_e ⟨v, nm_e (br_f (by decide) (br_f (by decide) (br_t rfl (br_f (nI_ne0 (by omega) (by omega)) ?_))))⟩⟩⟩⟩
  have vD : vp_in (nI dd) 8 := vp_in_nI hD (by omega)
  have cD := dl_c (show dd < 2 ^ 31 by omega)
  rw [nI_pred dd, cD]
  exact ⟨vD, br_c (fun z => h1 (Or.inl z)) (fun z => ⟨vD, br_c (fun y => ⟨vD, nm_r (e' := upd be dd 1) (by rw [dl_vb1]) (h0 z y)⟩) (fun y => h1 (Or.inr y))⟩)⟩
theorem dy_st100 {post : Int32 → SY → Prop} {i : Nat} (hi : i < 64) (hk : sk i = 10) (h : post 1 (yP, yC, yA, yL, yQ, yS, yK, nI 0, ed, cl, py, sk, sa, sb, sc, yi, yv, yo, yn, jl, pc, sv, bk, be)) : wpY_checkOne post (yP, yC, yA, yL, yQ, yS, yK, nI 0, ed, cl, py, sk, sa, sb, sc, yi, yv, yo, yn, jl, pc, sv, bk, be) (nI i) := by
  unfold wpY_checkOne
  have v : vp_in (nI i) 64 := vp_in_nI hi (by omega)
  have c := dl_c (show i < 2 ^ 31 by omega)
  refine ⟨v, nm_r (e' := 10) (by rw [c]; exact hk) ⟨v, nm_e ⟨v, nm_e ⟨v, nm_e (br_f (by decide) (br_f (by decide) (br_f (by decide) (br_t rfl (br_t nI_0 h)))))⟩⟩⟩⟩
theorem dy_st10 {post : Int32 → SY → Prop} {dd i : Nat} (hD : dd < 8) (hi : i < 64) (hk : sk i = 10) (h : post 0 (yP, yC, yA, yL, yQ, yS, yK, nI dd, ed, cl, py, sk, sa, sb, sc, yi, yv, yo, yn, jl, dl_row (fun o => sv (dd * 8 + o)) pc 8, sv, bk, be)) : wpY_checkOne post (yP, yC, yA, yL, yQ, yS, yK, nI (dd + 1), ed, cl, py, sk, sa, sb, sc, yi, yv, yo, yn, jl, pc, sv, bk, be) (nI i) := by
  unfold wpY_checkOne
  have v : vp_in (nI i) 64 := vp_in_nI hi (by omega)
  have c := dl_c (show i < 2 ^ 31 by omega)
  refine ⟨v, nm_r (e' := 10) (by rw [c]; exact hk) ⟨v, nm_e ⟨v, nm_e ⟨v, nm_e (br_f (by decide) (br_f (by decide) (br_f (by decide) (br_t rfl (br_f (nI_ne0 (by omega) (by omega)) (nm_r (nI_pred dd) ?_))))))⟩⟩⟩⟩
  refine loop_0 (fun n k a => wY_checkOne_253 post yP yC yA yL yQ yS yK (nI dd) n (nI k) ed cl py sk sa sb sc yi yv yo yn jl a sv bk be) (fun k a => a = dl_row (fun o => sv (dd * 8 + o)) pc k) 8 pc (dl_row_0 _ _).symm ?_ ?_
  · intro n a ha
    subst ha
    exact br_t (nI_le (a := 8) (b := 8) (by omega) (by omega)) h
  · intro n k a hk ha ih
    subst ha
    refine br_f (nI_ge (b := 8) hk (by omega)) ?_
    rw [dl_m8, dl_c (show dd * 8 + k < 2 ^ 31 by omega), dl_c (show k < 2 ^ 31 by omega)]
    exact ⟨vp_in_nI (by omega) (by omega), vp_in_nI (by omega) (by omega), nm_e (nm_r (nI_1 k) (ih _ (dl_row_s rfl)))⟩
/-! a stored statement is a valid one -/
theorem dl_nm1 {n : Nat} (h : n < 2 ^ 31) : ¬ nI n = -1 := by
  intro e
  have t := congrArg Int32.toInt e
  rw [nI_toInt h] at t
  have u : (-1 : Int32).toInt = -1 := by decide
  omega
def dl_v (x : Int32) : Prop := ∃ n, n < 16 ∧ x = nI n
def dl_hc (x : Int32) : Prop := ∃ n, n < 4 ∧ x = nI n
def dl_ok (k a b c : Int32) : Prop := (k = 1 ∧ dl_v a) ∨ (k = 2 ∧ dl_v a ∧ dl_v b) ∨ (k = 13 ∧ dl_v a ∧ dl_v b) ∨ ((k = 3 ∨ k = 4 ∨ k = 5 ∨ k = 6 ∨ k = 7) ∧ dl_v a ∧ dl_v b ∧ dl_v c) ∨ ((k = 8 ∨ k = 11) ∧ dl_v a) ∨ k = 9 ∨ k = 10 ∨ (k = 12 ∧ dl_hc a ∧ dl_v b)
def dl_P (L : Nat) (st sk sa sb sc : Nat → Int32) : Prop := ∀ i, i < L → st (i * 4) = sk i ∧ st (i * 4 + 1) = sa i ∧ st (i * 4 + 2) = sb i ∧ st (i * 4 + 3) = sc i ∧ dl_ok (sk i) (sa i) (sb i) (sc i)
def dl_CR (P L i D : Nat) (sk pl op el jm pc sv bk be : Nat → Int32) : Prop := D ≤ 8 ∧ (∀ o, o < P → pl (D * 8 + o) = pc o) ∧ (∀ d, d < D → ∀ o, o < P → pl (d * 8 + o) = sv (d * 8 + o)) ∧ (∀ d, d < D → ∀ o, o < 64 → op d = nI o → bk d = sk o) ∧ (∀ d, d < D → (el d = -1 ↔ be d = 0)) ∧ dl_K sk L i D op el jm
theorem dl_fl_c {P : Nat} {A po s s' : Nat → Int32} {t : Nat} {d : Int32} (h : ∀ o, o < P → s o = s' o) : dl_fl P A po s t d ↔ dl_fl P A po s' t d := by
  constructor
  · intro f o ho a b
    have q := f o ho (by rw [h o ho]; exact a) b
    rw [h o ho] at q
    exact q
  · intro f o ho a b
    have q := f o ho (by rw [← h o ho]; exact a) b
    rw [← h o ho] at q
    exact q
theorem dl_r1 {P D : Nat} (hP : P ≤ 8) (h : ∀ o, o < P → pl (D * 8 + o) = pc o) : ∀ o, o < P → dl_S1 pl so D o = dl_Yp pc (dl_Y0 jl) P o := by
  intro o ho
  unfold dl_S1 dl_Yp dl_Y0
  rw [dl_row_l (by omega), dl_row_l ho, dl_row_l (by omega), dl_ma]
  exact h o ho
theorem dl_rj {P t : Nat} {s j : Nat → Int32} (hP : P ≤ 8) (h : ∀ o, o < P → s o = j o) : ∀ o, o < P → dl_Sj po s t o = dl_Yt po j P t o := by
  intro o ho
  unfold dl_Sj dl_Yt
  rw [dl_row_l (by omega), dl_row_l ho, h o ho]
theorem dl_rt {P t : Nat} {s j : Nat → Int32} (hP : P ≤ 8) : ∀ o, o < P → dl_St po s t o = dl_Yt po (dl_Y0 j) P t o := by
  intro o ho
  unfold dl_St dl_Yt dl_Y0
  rw [dl_row_l (by omega), dl_row_l ho, dl_row_l (by omega), dl_ma]
theorem dl_CRn {P L i D : Nat} (hi : i < L) (h : dl_CR P L i D sk pl op el jm pc sv bk be) (k : ¬ dl_ct (sk i)) : dl_CR P L (i + 1) D sk pl op el jm pc sv bk be := ⟨h.1, h.2.1, h.2.2.1, h.2.2.2.1, h.2.2.2.2.1, dl_K_n hi h.2.2.2.2.2 k⟩
/-- what one statement comes to: one answer, and both sides' states -/
def dl_G (P L i D : Nat) (xC xA xQ xS xK yC yQ yS yK : Int32) (dA aA po st jm pl op el so ip va ov oc ed sk sa sb sc yi yv yo yn jl pc sv bk be : Nat → Int32) : Prop := ∃ (r : Int32) (D' : Nat) (jm' pl' op' el' so' jl' pc' sv' bk' be' : Nat → Int32), (r = 0 ∨ ∃ c, 1 ≤ c ∧ c ≤ 4 ∧ r = nI c) ∧ (r = 0 → dl_CR P L (i + 1) D' sk pl' op' el' jm' pc' sv' bk' be') ∧ (∀ post : Int32 → SX → Prop, post r (nI P, xC, xA, nI L, nI D', xQ, xS, xK, dA, aA, po, st, jm', pl', op', el', so', ip, va, ov, oc) → wpX_statementError post (nI P, xC, xA, nI L, nI D, xQ, xS, xK, dA, aA, po, st, jm, pl, op, el, so, ip, va, ov, oc) (nI i)) ∧ (∀ cl' : Nat → Int32, dl_CA P cl' aA → ∀ post : Int32 → SY → Prop, post r (nI P, yC, xA, nI L, yQ, yS, yK, nI D', ed, cl', po, sk, sa, sb, sc, yi, yv, yo, yn, jl', pc', sv', bk', be') → wpY_checkOne post (nI P, yC, xA, nI L, yQ, yS, yK, nI D, ed, cl', po, sk, sa, sb, sc, yi, yv, yo, yn, jl, pc, sv, bk, be) (nI i))
theorem dl_g1 {P L i D : Nat} (hP : P ≤ 8) (hL : L ≤ 64) (hi : i < L) (hA : dl_A P dA aA) (h : dl_CR P L i D sk pl op el jm pc sv bk be) (hp : dl_P L st sk sa sb sc) (k : sk i = 1) (va' : dl_v (sa i)) : dl_G P L i D xC xA xQ xS xK yC yQ yS yK dA aA po st jm pl op el so ip va ov oc ed sk sa sb sc yi yv yo yn jl pc sv bk be := by
  obtain ⟨p0, p1, p2, p3, _⟩ := hp i hi
  obtain ⟨t, ht, ea⟩ := va'
  have nc : ¬ dl_ct (sk i) := by
    rw [k]
    unfold dl_ct
    decide
  have cg := dl_fl_c (A := aA) (po := po) (t := t) (d := 0) (dl_r1 (so := so) (jl := jl) hP h.2.1)
  by_cases f : dl_fl P aA po (dl_S1 pl so D) t 0
  · exact ⟨0, D, jm, pl, op, el, dl_S1 pl so D, dl_Yp pc (dl_Y0 jl) P, pc, sv, bk, be, Or.inl rfl, fun _ => dl_CRn hi h nc, fun post q => dx_st1 hP h.1 (by omega) (p0.trans k) (p1.trans ea) (by omega) (fun _ => q) (fun z => absurd f z), fun cl' hc post q => dy_st1 hP (by omega) hA hc k ea (by omega) (fun _ => q) (fun z => absurd (cg.mp f) z)⟩
  · exact ⟨3, D, jm, pl, op, el, dl_S1 pl so D, dl_Yp pc (dl_Y0 jl) P, pc, sv, bk, be, Or.inr ⟨3, by omega, by omega, rfl⟩, fun z => absurd z (by decide), fun post q => dx_st1 hP h.1 (by omega) (p0.trans k) (p1.trans ea) (by omega) (fun z => absurd z f) (fun _ => q), fun cl' hc post q => dy_st1 hP (by omega) hA hc k ea (by omega) (fun z => absurd (cg.mpr z) f) (fun _ => q)⟩
theorem dl_g2 {P L i D : Nat} (hP : P ≤ 8) (hL : L ≤ 64) (hi : i < L) (hA : dl_A P dA aA) (h : dl_CR P L i D sk pl op el jm pc sv bk be) (hp : dl_P L st sk sa sb sc) (k : sk i = 2) (va' : dl_v (sa i)) (vb' : dl_v (sb i)) : dl_G P L i D xC xA xQ xS xK yC yQ yS yK dA aA po st jm pl op el so ip va ov oc ed sk sa sb sc yi yv yo yn jl pc sv bk be := by
  obtain ⟨p0, p1, p2, p3, _⟩ := hp i hi
  obtain ⟨t, ht, ea⟩ := va'
  obtain ⟨b, hb, eb⟩ := vb'
  have nc : ¬ dl_ct (sk i) := by
    rw [k]
    unfold dl_ct
    decide
  have cg := dl_fl_c (A := aA) (po := po) (t := t) (d := 0) (dl_rj (po := po) (t := b) hP (dl_r1 (so := so) (jl := jl) hP h.2.1))
  by_cases f : dl_fl P aA po (dl_S2 pl po so D b) t 0
  · exact ⟨0, D, jm, pl, op, el, dl_S2 pl po so D b, dl_Yt po (dl_Yp pc (dl_Y0 jl) P) P b, pc, sv, bk, be, Or.inl rfl, fun _ => dl_CRn hi h nc, fun post q => dx_st2 hP h.1 (by omega) (p0.trans k) (p1.trans ea) (p2.trans eb) (by omega) (by omega) (fun _ => q) (fun z => absurd f z), fun cl' hc post q => dy_st2 hP (by omega) hA hc k ea eb (by omega) (by omega) (fun _ => q) (fun z => absurd (cg.mp f) z)⟩
  · exact ⟨3, D, jm, pl, op, el, dl_S2 pl po so D b, dl_Yt po (dl_Yp pc (dl_Y0 jl) P) P b, pc, sv, bk, be, Or.inr ⟨3, by omega, by omega, rfl⟩, fun z => absurd z (by decide), fun post q => dx_st2 hP h.1 (by omega) (p0.trans k) (p1.trans ea) (p2.trans eb) (by omega) (by omega) (fun z => absurd z f) (fun _ => q), fun cl' hc post q => dy_st2 hP (by omega) hA hc k ea eb (by omega) (by omega) (fun z => absurd (cg.mpr z) f) (fun _ => q)⟩
theorem dl_g12 {P L i D : Nat} (hP : P ≤ 8) (hL : L ≤ 64) (hi : i < L) (hA : dl_A P dA aA) (h : dl_CR P L i D sk pl op el jm pc sv bk be) (hp : dl_P L st sk sa sb sc) (k : sk i = 12) (va' : dl_hc (sa i)) (vb' : dl_v (sb i)) : dl_G P L i D xC xA xQ xS xK yC yQ yS yK dA aA po st jm pl op el so ip va ov oc ed sk sa sb sc yi yv yo yn jl pc sv bk be := by
  obtain ⟨p0, p1, p2, p3, _⟩ := hp i hi
  obtain ⟨t, ht, ea⟩ := va'
  obtain ⟨b, hb, eb⟩ := vb'
  have nc : ¬ dl_ct (sk i) := by
    rw [k]
    unfold dl_ct
    decide
  have cg := dl_fl_c (A := aA) (po := po) (t := (16 + t)) (d := 0) (dl_rj (po := po) (t := b) hP (dl_r1 (so := so) (jl := jl) hP h.2.1))
  by_cases f : dl_fl P aA po (dl_S2 pl po so D b) (16 + t) 0
  · exact ⟨0, D, jm, pl, op, el, dl_S2 pl po so D b, dl_Yt po (dl_Yp pc (dl_Y0 jl) P) P b, pc, sv, bk, be, Or.inl rfl, fun _ => dl_CRn hi h nc, fun post q => dx_st12 hP h.1 (by omega) (p0.trans k) (p1.trans ea) (p2.trans eb) (by omega) (by omega) (fun _ => q) (fun z => absurd f z), fun cl' hc post q => dy_st12 hP (by omega) hA hc k ea eb (by omega) (by omega) (fun _ => q) (fun z => absurd (cg.mp f) z)⟩
  · exact ⟨3, D, jm, pl, op, el, dl_S2 pl po so D b, dl_Yt po (dl_Yp pc (dl_Y0 jl) P) P b, pc, sv, bk, be, Or.inr ⟨3, by omega, by omega, rfl⟩, fun z => absurd z (by decide), fun post q => dx_st12 hP h.1 (by omega) (p0.trans k) (p1.trans ea) (p2.trans eb) (by omega) (by omega) (fun z => absurd z f) (fun _ => q), fun cl' hc post q => dy_st12 hP (by omega) hA hc k ea eb (by omega) (by omega) (fun z => absurd (cg.mpr z) f) (fun _ => q)⟩
theorem dl_g3 {P L i D : Nat} (hP : P ≤ 8) (hL : L ≤ 64) (hi : i < L) (hA : dl_A P dA aA) (h : dl_CR P L i D sk pl op el jm pc sv bk be) (hp : dl_P L st sk sa sb sc) (k : sk i = 3) (va' : dl_v (sa i)) (vb' : dl_v (sb i)) (vc' : dl_v (sc i)) : dl_G P L i D xC xA xQ xS xK yC yQ yS yK dA aA po st jm pl op el so ip va ov oc ed sk sa sb sc yi yv yo yn jl pc sv bk be := by
  obtain ⟨p0, p1, p2, p3, _⟩ := hp i hi
  obtain ⟨t, ht, ea⟩ := va'
  obtain ⟨b, hb, eb⟩ := vb'
  obtain ⟨c, hc2, ec⟩ := vc'
  have nc : ¬ dl_ct (sk i) := by
    rw [k]
    unfold dl_ct
    decide
  have cg := dl_fl_c (A := aA) (po := po) (t := t) (d := 0) (dl_rj (po := po) (t := c) hP (dl_rj (po := po) (t := b) hP (dl_r1 (so := so) (jl := jl) hP h.2.1)))
  by_cases f : dl_fl P aA po (dl_Sj po (dl_S2 pl po so D b) c) t 0
  · exact ⟨0, D, jm, pl, op, el, dl_Sj po (dl_S2 pl po so D b) c, dl_Yt po (dl_Yt po (dl_Yp pc (dl_Y0 jl) P) P b) P c, pc, sv, bk, be, Or.inl rfl, fun _ => dl_CRn hi h nc, fun post q => dx_st3 hP h.1 (by omega) (p0.trans k) (p1.trans ea) (p2.trans eb) (p3.trans ec) (by omega) (by omega) (by omega) (fun _ => q) (fun z => absurd f z), fun cl' hc post q => dy_st3 hP (by omega) hA hc k ea eb ec (by omega) (by omega) (by omega) (fun _ => q) (fun z => absurd (cg.mp f) z)⟩
  · exact ⟨3, D, jm, pl, op, el, dl_Sj po (dl_S2 pl po so D b) c, dl_Yt po (dl_Yt po (dl_Yp pc (dl_Y0 jl) P) P b) P c, pc, sv, bk, be, Or.inr ⟨3, by omega, by omega, rfl⟩, fun z => absurd z (by decide), fun post q => dx_st3 hP h.1 (by omega) (p0.trans k) (p1.trans ea) (p2.trans eb) (p3.trans ec) (by omega) (by omega) (by omega) (fun z => absurd z f) (fun _ => q), fun cl' hc post q => dy_st3 hP (by omega) hA hc k ea eb ec (by omega) (by omega) (by omega) (fun z => absurd (cg.mpr z) f) (fun _ => q)⟩
theorem dl_g4 {P L i D : Nat} (hP : P ≤ 8) (hL : L ≤ 64) (hi : i < L) (hA : dl_A P dA aA) (h : dl_CR P L i D sk pl op el jm pc sv bk be) (hp : dl_P L st sk sa sb sc) (k : sk i = 4) (va' : dl_v (sa i)) (vb' : dl_v (sb i)) (vc' : dl_v (sc i)) : dl_G P L i D xC xA xQ xS xK yC yQ yS yK dA aA po st jm pl op el so ip va ov oc ed sk sa sb sc yi yv yo yn jl pc sv bk be := by
  obtain ⟨p0, p1, p2, p3, _⟩ := hp i hi
  obtain ⟨t, ht, ea⟩ := va'
  obtain ⟨b, hb, eb⟩ := vb'
  obtain ⟨c, hc2, ec⟩ := vc'
  have nc : ¬ dl_ct (sk i) := by
    rw [k]
    unfold dl_ct
    decide
  have cg := dl_fl_c (A := aA) (po := po) (t := t) (d := 0) (dl_rj (po := po) (t := c) hP (dl_rj (po := po) (t := b) hP (dl_r1 (so := so) (jl := jl) hP h.2.1)))
  by_cases f : dl_fl P aA po (dl_Sj po (dl_S2 pl po so D b) c) t 0
  · exact ⟨0, D, jm, pl, op, el, dl_Sj po (dl_S2 pl po so D b) c, dl_Yt po (dl_Yt po (dl_Yp pc (dl_Y0 jl) P) P b) P c, pc, sv, bk, be, Or.inl rfl, fun _ => dl_CRn hi h nc, fun post q => dx_st4 hP h.1 (by omega) (p0.trans k) (p1.trans ea) (p2.trans eb) (p3.trans ec) (by omega) (by omega) (by omega) (fun _ => q) (fun z => absurd f z), fun cl' hc post q => dy_st4 hP (by omega) hA hc k ea eb ec (by omega) (by omega) (by omega) (fun _ => q) (fun z => absurd (cg.mp f) z)⟩
  · exact ⟨3, D, jm, pl, op, el, dl_Sj po (dl_S2 pl po so D b) c, dl_Yt po (dl_Yt po (dl_Yp pc (dl_Y0 jl) P) P b) P c, pc, sv, bk, be, Or.inr ⟨3, by omega, by omega, rfl⟩, fun z => absurd z (by decide), fun post q => dx_st4 hP h.1 (by omega) (p0.trans k) (p1.trans ea) (p2.trans eb) (p3.trans ec) (by omega) (by omega) (by omega) (fun z => absurd z f) (fun _ => q), fun cl' hc post q => dy_st4 hP (by omega) hA hc k ea eb ec (by omega) (by omega) (by omega) (fun z => absurd (cg.mpr z) f) (fun _ => q)⟩
theorem dl_g5 {P L i D : Nat} (hP : P ≤ 8) (hL : L ≤ 64) (hi : i < L) (hA : dl_A P dA aA) (h : dl_CR P L i D sk pl op el jm pc sv bk be) (hp : dl_P L st sk sa sb sc) (k : sk i = 5) (va' : dl_v (sa i)) (vb' : dl_v (sb i)) (vc' : dl_v (sc i)) : dl_G P L i D xC xA xQ xS xK yC yQ yS yK dA aA po st jm pl op el so ip va ov oc ed sk sa sb sc yi yv yo yn jl pc sv bk be := by
  obtain ⟨p0, p1, p2, p3, _⟩ := hp i hi
  obtain ⟨t, ht, ea⟩ := va'
  obtain ⟨b, hb, eb⟩ := vb'
  obtain ⟨c, hc2, ec⟩ := vc'
  have nc : ¬ dl_ct (sk i) := by
    rw [k]
    unfold dl_ct
    decide
  have cg := dl_fl_c (A := aA) (po := po) (t := t) (d := 0) (dl_rj (po := po) (t := c) hP (dl_rj (po := po) (t := b) hP (dl_r1 (so := so) (jl := jl) hP h.2.1)))
  by_cases f : dl_fl P aA po (dl_Sj po (dl_S2 pl po so D b) c) t 0
  · exact ⟨0, D, jm, pl, op, el, dl_Sj po (dl_S2 pl po so D b) c, dl_Yt po (dl_Yt po (dl_Yp pc (dl_Y0 jl) P) P b) P c, pc, sv, bk, be, Or.inl rfl, fun _ => dl_CRn hi h nc, fun post q => dx_st5 hP h.1 (by omega) (p0.trans k) (p1.trans ea) (p2.trans eb) (p3.trans ec) (by omega) (by omega) (by omega) (fun _ => q) (fun z => absurd f z), fun cl' hc post q => dy_st5 hP (by omega) hA hc k ea eb ec (by omega) (by omega) (by omega) (fun _ => q) (fun z => absurd (cg.mp f) z)⟩
  · exact ⟨3, D, jm, pl, op, el, dl_Sj po (dl_S2 pl po so D b) c, dl_Yt po (dl_Yt po (dl_Yp pc (dl_Y0 jl) P) P b) P c, pc, sv, bk, be, Or.inr ⟨3, by omega, by omega, rfl⟩, fun z => absurd z (by decide), fun post q => dx_st5 hP h.1 (by omega) (p0.trans k) (p1.trans ea) (p2.trans eb) (p3.trans ec) (by omega) (by omega) (by omega) (fun z => absurd z f) (fun _ => q), fun cl' hc post q => dy_st5 hP (by omega) hA hc k ea eb ec (by omega) (by omega) (by omega) (fun z => absurd (cg.mpr z) f) (fun _ => q)⟩
theorem dl_g6 {P L i D : Nat} (hP : P ≤ 8) (hL : L ≤ 64) (hi : i < L) (hA : dl_A P dA aA) (h : dl_CR P L i D sk pl op el jm pc sv bk be) (hp : dl_P L st sk sa sb sc) (k : sk i = 6) (va' : dl_v (sa i)) (vb' : dl_v (sb i)) (vc' : dl_v (sc i)) : dl_G P L i D xC xA xQ xS xK yC yQ yS yK dA aA po st jm pl op el so ip va ov oc ed sk sa sb sc yi yv yo yn jl pc sv bk be := by
  obtain ⟨p0, p1, p2, p3, _⟩ := hp i hi
  obtain ⟨t, ht, ea⟩ := va'
  obtain ⟨b, hb, eb⟩ := vb'
  obtain ⟨c, hc2, ec⟩ := vc'
  have nc : ¬ dl_ct (sk i) := by
    rw [k]
    unfold dl_ct
    decide
  have cg := dl_fl_c (A := aA) (po := po) (t := t) (d := 0) (dl_rj (po := po) (t := c) hP (dl_rj (po := po) (t := b) hP (dl_r1 (so := so) (jl := jl) hP h.2.1)))
  by_cases f : dl_fl P aA po (dl_Sj po (dl_S2 pl po so D b) c) t 0
  · exact ⟨0, D, jm, pl, op, el, dl_Sj po (dl_S2 pl po so D b) c, dl_Yt po (dl_Yt po (dl_Yp pc (dl_Y0 jl) P) P b) P c, pc, sv, bk, be, Or.inl rfl, fun _ => dl_CRn hi h nc, fun post q => dx_st6 hP h.1 (by omega) (p0.trans k) (p1.trans ea) (p2.trans eb) (p3.trans ec) (by omega) (by omega) (by omega) (fun _ => q) (fun z => absurd f z), fun cl' hc post q => dy_st6 hP (by omega) hA hc k ea eb ec (by omega) (by omega) (by omega) (fun _ => q) (fun z => absurd (cg.mp f) z)⟩
  · exact ⟨3, D, jm, pl, op, el, dl_Sj po (dl_S2 pl po so D b) c, dl_Yt po (dl_Yt po (dl_Yp pc (dl_Y0 jl) P) P b) P c, pc, sv, bk, be, Or.inr ⟨3, by omega, by omega, rfl⟩, fun z => absurd z (by decide), fun post q => dx_st6 hP h.1 (by omega) (p0.trans k) (p1.trans ea) (p2.trans eb) (p3.trans ec) (by omega) (by omega) (by omega) (fun z => absurd z f) (fun _ => q), fun cl' hc post q => dy_st6 hP (by omega) hA hc k ea eb ec (by omega) (by omega) (by omega) (fun z => absurd (cg.mpr z) f) (fun _ => q)⟩
theorem dl_g7 {P L i D : Nat} (hP : P ≤ 8) (hL : L ≤ 64) (hi : i < L) (hA : dl_A P dA aA) (h : dl_CR P L i D sk pl op el jm pc sv bk be) (hp : dl_P L st sk sa sb sc) (k : sk i = 7) (va' : dl_v (sa i)) (vb' : dl_v (sb i)) (vc' : dl_v (sc i)) : dl_G P L i D xC xA xQ xS xK yC yQ yS yK dA aA po st jm pl op el so ip va ov oc ed sk sa sb sc yi yv yo yn jl pc sv bk be := by
  obtain ⟨p0, p1, p2, p3, _⟩ := hp i hi
  obtain ⟨t, ht, ea⟩ := va'
  obtain ⟨b, hb, eb⟩ := vb'
  obtain ⟨c, hc2, ec⟩ := vc'
  have nc : ¬ dl_ct (sk i) := by
    rw [k]
    unfold dl_ct
    decide
  have cg := dl_fl_c (A := aA) (po := po) (t := t) (d := 0) (dl_rj (po := po) (t := c) hP (dl_rj (po := po) (t := b) hP (dl_r1 (so := so) (jl := jl) hP h.2.1)))
  by_cases f : dl_fl P aA po (dl_Sj po (dl_S2 pl po so D b) c) t 0
  · exact ⟨0, D, jm, pl, op, el, dl_Sj po (dl_S2 pl po so D b) c, dl_Yt po (dl_Yt po (dl_Yp pc (dl_Y0 jl) P) P b) P c, pc, sv, bk, be, Or.inl rfl, fun _ => dl_CRn hi h nc, fun post q => dx_st7 hP h.1 (by omega) (p0.trans k) (p1.trans ea) (p2.trans eb) (p3.trans ec) (by omega) (by omega) (by omega) (fun _ => q) (fun z => absurd f z), fun cl' hc post q => dy_st7 hP (by omega) hA hc k ea eb ec (by omega) (by omega) (by omega) (fun _ => q) (fun z => absurd (cg.mp f) z)⟩
  · exact ⟨3, D, jm, pl, op, el, dl_Sj po (dl_S2 pl po so D b) c, dl_Yt po (dl_Yt po (dl_Yp pc (dl_Y0 jl) P) P b) P c, pc, sv, bk, be, Or.inr ⟨3, by omega, by omega, rfl⟩, fun z => absurd z (by decide), fun post q => dx_st7 hP h.1 (by omega) (p0.trans k) (p1.trans ea) (p2.trans eb) (p3.trans ec) (by omega) (by omega) (by omega) (fun z => absurd z f) (fun _ => q), fun cl' hc post q => dy_st7 hP (by omega) hA hc k ea eb ec (by omega) (by omega) (by omega) (fun z => absurd (cg.mpr z) f) (fun _ => q)⟩
theorem dl_g13 {P L i D : Nat} (hP : P ≤ 8) (hL : L ≤ 64) (hi : i < L) (hA : dl_A P dA aA) (h : dl_CR P L i D sk pl op el jm pc sv bk be) (hp : dl_P L st sk sa sb sc) (k : sk i = 13) (va' : dl_v (sa i)) (vb' : dl_v (sb i)) : dl_G P L i D xC xA xQ xS xK yC yQ yS yK dA aA po st jm pl op el so ip va ov oc ed sk sa sb sc yi yv yo yn jl pc sv bk be := by
  obtain ⟨p0, p1, p2, p3, _⟩ := hp i hi
  obtain ⟨t, ht, ea⟩ := va'
  obtain ⟨b, hb, eb⟩ := vb'
  have nc : ¬ dl_ct (sk i) := by
    rw [k]
    unfold dl_ct
    decide
  have cg := dl_fl_c (A := aA) (po := po) (t := t) (d := 0) (dl_r1 (so := so) (jl := jl) hP h.2.1)
  have cg2 := dl_fl_c (A := aA) (po := po) (t := t) (d := xA) (dl_rt (po := po) (t := b) (s := dl_S1 pl so D) (j := dl_Yp pc (dl_Y0 jl) P) hP)
  by_cases f : dl_fl P aA po (dl_S1 pl so D) t 0
  · by_cases g : dl_fl P aA po (dl_St po (dl_S1 pl so D) b) t xA
    · exact ⟨0, D, jm, pl, op, el, dl_St po (dl_S1 pl so D) b, dl_Yt po (dl_Y0 (dl_Yp pc (dl_Y0 jl) P)) P b, pc, sv, bk, be, Or.inl rfl, fun _ => dl_CRn hi h nc, fun post q => dx_st13 hP h.1 (by omega) (p0.trans k) (p1.trans ea) (p2.trans eb) (by omega) (by omega) (fun z => absurd f z) (fun _ z => absurd g z) (fun _ _ => q), fun cl' hc post q => dy_st13 hP (by omega) hA hc k ea eb (by omega) (by omega) (fun z => absurd (cg.mp f) z) (fun _ z => absurd (cg2.mp g) z) (fun _ _ => q)⟩
    · exact ⟨4, D, jm, pl, op, el, dl_St po (dl_S1 pl so D) b, dl_Yt po (dl_Y0 (dl_Yp pc (dl_Y0 jl) P)) P b, pc, sv, bk, be, Or.inr ⟨4, by omega, by omega, rfl⟩, fun z => absurd z (by decide), fun post q => dx_st13 hP h.1 (by omega) (p0.trans k) (p1.trans ea) (p2.trans eb) (by omega) (by omega) (fun z => absurd f z) (fun _ _ => q) (fun _ z => absurd z g), fun cl' hc post q => dy_st13 hP (by omega) hA hc k ea eb (by omega) (by omega) (fun z => absurd (cg.mp f) z) (fun _ _ => q) (fun _ z => absurd (cg2.mpr z) g)⟩
  · exact ⟨3, D, jm, pl, op, el, dl_S1 pl so D, dl_Yp pc (dl_Y0 jl) P, pc, sv, bk, be, Or.inr ⟨3, by omega, by omega, rfl⟩, fun z => absurd z (by decide), fun post q => dx_st13 hP h.1 (by omega) (p0.trans k) (p1.trans ea) (p2.trans eb) (by omega) (by omega) (fun _ => q) (fun z => absurd z f) (fun z => absurd z f), fun cl' hc post q => dy_st13 hP (by omega) hA hc k ea eb (by omega) (by omega) (fun _ => q) (fun z => absurd (cg.mpr z) f) (fun z => absurd (cg.mpr z) f)⟩
theorem dl_CRo {P L i D t : Nat} {kk : Int32} (hP : P ≤ 8) (hL : L ≤ 64) (hi : i < L) (hD : D < 8) (h : dl_CR P L i D sk pl op el jm pc sv bk be) (k : sk i = kk) (kk8 : kk = 8 ∨ kk = 11) : dl_CR P L (i + 1) (D + 1) sk (dl_seg (dl_S2 pl po so D t) pl ((D + 1) * 8) 8) (upd op D (nI i)) (upd el D (-1)) jm (dl_row (dl_Yt po (dl_Yp pc (dl_Y0 jl) P) P t) pc 8) (dl_seg pc sv (D * 8) 8) (upd bk D kk) (upd be D 0) := by
  obtain ⟨_, h2, h3, h4, h5, h6⟩ := h
  refine ⟨by omega, fun o ho => ?_, fun d hd o ho => ?_, fun d hd o ho e => ?_, fun d hd => ?_, dl_K_o hi h6 (by rw [k]; exact kk8)⟩
  · rw [dl_seg_i (by omega), dl_row_l (by omega)]
    exact dl_rj hP (dl_r1 hP h2) o ho
  · rw [dl_seg_o (by omega)]
    rcases Nat.lt_or_ge d D with z | z
    · rw [dl_seg_o (by omega)]
      exact h3 d z o ho
    · have e : d = D := by omega
      subst e
      rw [dl_seg_i (by omega)]
      exact h2 o ho
  · by_cases z : d = D
    · subst z
      rw [pk_us] at e ⊢
      have w := (nI_eq (by omega) (by omega)).mp e
      rw [← w]
      exact k.symm
    · rw [pk_un z] at e ⊢
      exact h4 d (by omega) o ho e
  · by_cases z : d = D
    · subst z
      rw [pk_us, pk_us]
      exact ⟨fun _ => rfl, fun _ => rfl⟩
    · rw [pk_un z, pk_un z]
      exact h5 d (by omega)
theorem dl_g8 {P L i D : Nat} (hP : P ≤ 8) (hL : L ≤ 64) (hi : i < L) (hA : dl_A P dA aA) (h : dl_CR P L i D sk pl op el jm pc sv bk be) (hp : dl_P L st sk sa sb sc) (k : sk i = 8) (va' : dl_v (sa i)) : dl_G P L i D xC xA xQ xS xK yC yQ yS yK dA aA po st jm pl op el so ip va ov oc ed sk sa sb sc yi yv yo yn jl pc sv bk be := by
  obtain ⟨p0, p1, p2, p3, _⟩ := hp i hi
  obtain ⟨t, ht, ea⟩ := va'
  rcases Nat.lt_or_ge D 8 with hD | hD
  · exact ⟨0, D + 1, jm, dl_seg (dl_S2 pl po so D t) pl ((D + 1) * 8) 8, upd op D (nI i), upd el D (-1), dl_S2 pl po so D t, dl_Yt po (dl_Yp pc (dl_Y0 jl) P) P t, dl_row (dl_Yt po (dl_Yp pc (dl_Y0 jl) P) P t) pc 8, dl_seg pc sv (D * 8) 8, upd bk D 8, upd be D 0, Or.inl rfl, fun _ => dl_CRo hP hL hi hD h k (by decide), fun post q => dx_st8 hD (by omega) (p0.trans k) (p1.trans ea) (by omega) q, fun cl' hc post q => dy_st8 hP hD (by omega) k ea (by omega) q⟩
  · have e : D = 8 := by
      have := h.1
      omega
    subst e
    exact ⟨2, 8, jm, pl, op, el, so, jl, pc, sv, bk, be, Or.inr ⟨2, by omega, by omega, rfl⟩, fun z => absurd z (by decide), fun post q => dx_st88 (by omega) (p0.trans k) (p1.trans ea) q, fun cl' hc post q => dy_st88 (by omega) k q⟩
theorem dl_g11 {P L i D : Nat} (hP : P ≤ 8) (hL : L ≤ 64) (hi : i < L) (hA : dl_A P dA aA) (h : dl_CR P L i D sk pl op el jm pc sv bk be) (hp : dl_P L st sk sa sb sc) (k : sk i = 11) (va' : dl_v (sa i)) : dl_G P L i D xC xA xQ xS xK yC yQ yS yK dA aA po st jm pl op el so ip va ov oc ed sk sa sb sc yi yv yo yn jl pc sv bk be := by
  obtain ⟨p0, p1, p2, p3, _⟩ := hp i hi
  obtain ⟨t, ht, ea⟩ := va'
  rcases Nat.lt_or_ge D 8 with hD | hD
  · exact ⟨0, D + 1, jm, dl_seg (dl_S2 pl po so D t) pl ((D + 1) * 8) 8, upd op D (nI i), upd el D (-1), dl_S2 pl po so D t, dl_Yt po (dl_Yp pc (dl_Y0 jl) P) P t, dl_row (dl_Yt po (dl_Yp pc (dl_Y0 jl) P) P t) pc 8, dl_seg pc sv (D * 8) 8, upd bk D 11, upd be D 0, Or.inl rfl, fun _ => dl_CRo hP hL hi hD h k (by decide), fun post q => dx_st11 hD (by omega) (p0.trans k) (p1.trans ea) (by omega) q, fun cl' hc post q => dy_st11 hP hD (by omega) k ea (by omega) q⟩
  · have e : D = 8 := by
      have := h.1
      omega
    subst e
    exact ⟨2, 8, jm, pl, op, el, so, jl, pc, sv, bk, be, Or.inr ⟨2, by omega, by omega, rfl⟩, fun z => absurd z (by decide), fun post q => dx_st118 (by omega) (p0.trans k) (p1.trans ea) q, fun cl' hc post q => dy_st118 (by omega) k q⟩
theorem dl_g9 {P L i D : Nat} (hP : P ≤ 8) (hL : L ≤ 64) (hi : i < L) (hA : dl_A P dA aA) (h : dl_CR P L i D sk pl op el jm pc sv bk be) (hp : dl_P L st sk sa sb sc) (k : sk i = 9) : dl_G P L i D xC xA xQ xS xK yC yQ yS yK dA aA po st jm pl op el so ip va ov oc ed sk sa sb sc yi yv yo yn jl pc sv bk be := by
  obtain ⟨p0, p1, p2, p3, _⟩ := hp i hi
  cases D with
  | zero => exact ⟨1, 0, jm, pl, op, el, so, jl, pc, sv, bk, be, Or.inr ⟨1, by omega, by omega, rfl⟩, fun z => absurd z (by decide), fun post q => dx_st90 (by omega) (p0.trans k) q, fun cl' hc post q => dy_st90 (by omega) k q⟩
  | succ D =>
    obtain ⟨h1, h2, h3, h4, h5, h6⟩ := h
    obtain ⟨o, o1, o2, o3, _, _, o6⟩ := h6.1 D (by omega)
    have so11 : st (o * 4) = 11 ↔ bk D = 11 := by rw [(hp o (by omega)).1, h4 D (by omega) o (by omega) o2]
    have e0 := h5 D (by omega)
    by_cases f : st (o * 4) = 11 ∨ ¬ el D = -1
    · have f' : bk D = 11 ∨ ¬ be D = 0 := f.elim (fun z => Or.inl (so11.mp z)) (fun z => Or.inr (fun w => z (e0.mpr w)))
      exact ⟨1, D + 1, jm, pl, op, el, so, jl, pc, sv, bk, be, Or.inr ⟨1, by omega, by omega, rfl⟩, fun z => absurd z (by decide), fun post q => dx_st9 (by omega) o2 (by omega) (by omega) (p0.trans k) (fun _ => q) (fun z1 z2 => absurd f (fun y => y.elim z1 (fun u => u z2))), fun cl' hc post q => dy_st9 (by omega) (by omega) k (fun _ => q) (fun z1 z2 => absurd f' (fun y => y.elim z1 (fun u => u z2)))⟩
    · have f1 : ¬ st (o * 4) = 11 := fun z => f (Or.inl z)
      have f2 : el D = -1 := Classical.byContradiction (fun z => f (Or.inr z))
      refine ⟨0, D + 1, jm, pl, op, upd el D (nI i), so, jl, pc, sv, bk, upd be D 1, Or.inl rfl, fun _ => ⟨h1, h2, h3, h4, fun d hd => ?_, dl_K_e hi h6 k (fun o' w1 w2 w3 => ?_) f2 (by omega)⟩, fun post q => dx_st9 (by omega) o2 (by omega) (by omega) (p0.trans k) (fun z => absurd z f) (fun _ _ => q), fun cl' hc post q => dy_st9 (by omega) (by omega) k (fun z => absurd z (fun y => y.elim (fun u => f1 (so11.mpr u)) (fun u => u (e0.mp f2)))) (fun _ _ => q)⟩
      · by_cases z : d = D
        · subst z
          rw [pk_us, pk_us]
          exact ⟨fun w => absurd w (dl_nm1 (by omega)), fun w => absurd w (by decide)⟩
        · rw [pk_un z, pk_un z]
          exact h5 d hd
      · have w := (nI_eq (show o' < 2 ^ 31 by omega) (show o < 2 ^ 31 by omega)).mp (w2.symm.trans o2)
        subst w
        exact f1 (((hp o' (by omega)).1).trans w3)
theorem dl_g10 {P L i D : Nat} (hP : P ≤ 8) (hL : L ≤ 64) (hi : i < L) (hA : dl_A P dA aA) (h : dl_CR P L i D sk pl op el jm pc sv bk be) (hp : dl_P L st sk sa sb sc) (k : sk i = 10) : dl_G P L i D xC xA xQ xS xK yC yQ yS yK dA aA po st jm pl op el so ip va ov oc ed sk sa sb sc yi yv yo yn jl pc sv bk be := by
  obtain ⟨p0, p1, p2, p3, _⟩ := hp i hi
  cases D with
  | zero => exact ⟨1, 0, jm, pl, op, el, so, jl, pc, sv, bk, be, Or.inr ⟨1, by omega, by omega, rfl⟩, fun z => absurd z (by decide), fun post q => dx_st100 (by omega) (p0.trans k) q, fun cl' hc post q => dy_st100 (by omega) k q⟩
  | succ D =>
    obtain ⟨h1, h2, h3, h4, h5, h6⟩ := h
    obtain ⟨o, o1, o2, o3, o4, o5⟩ := dl_K_top hi (by omega) h6 k
    have hso := (hp o (by omega)).1
    rw [← hso] at o4
    have row : ∀ q, q < P → pl (D * 8 + q) = dl_row (fun o => sv (D * 8 + o)) pc 8 q := fun q hq => by
      rw [dl_row_l (by omega)]
      exact h3 D (by omega) q hq
    have no : ∀ q, q < i → op D = nI q → q = o := fun q hq w => (nI_eq (by omega) (by omega)).mp (w.symm.trans o2)
    have io : ¬ i = o := by omega
    rcases o5 with ⟨e1, e2⟩ | ⟨m, m1, m2, m3, m4, m5, m6⟩
    · refine ⟨0, D, dl_j1 jm o i (if st (o * 4) = 11 then nI o else nI (i + 1)), pl, op, el, so, jl, dl_row (fun o => sv (D * 8 + o)) pc 8, sv, bk, be, Or.inl rfl, fun _ => ⟨by omega, row, fun d hd => h3 d (by omega), fun d hd => h4 d (by omega), fun d hd => h5 d (by omega), dl_K_x hi h6 k ?_ ?_ ?_ ?_⟩, fun post q => dx_st10 (by omega) o2 (by omega) (by omega) (p0.trans k) (fun _ => q) (fun m w1 w2 => absurd (e1.symm.trans w2).symm (dl_nm1 (by omega))) (Or.inl e1), fun cl' hc post q => dy_st10 (by omega) (by omega) k q⟩
      · unfold dl_j1
        rw [pk_us]
        exact o4.symm
      · intro q hq w
        have e := no q hq w
        subst e
        unfold dl_j1
        rw [pk_un (by omega), pk_us]
        exact e2.symm
      · intro q hq w
        exact absurd (e1.symm.trans w).symm (dl_nm1 (by omega))
      · intro q hq w1 w2
        unfold dl_j1
        rw [pk_un (by omega), pk_un (fun z => w1 (by rw [z]; exact o2))]
    · have nm : ∀ q, q < i → el D = nI q → q = m := fun q hq w => (nI_eq (by omega) (by omega)).mp (w.symm.trans m2)
      have mo : ¬ m = o := fun z => by
        rw [z, m3] at m4
        exact absurd m4 (by decide)
      refine ⟨0, D, dl_j2 jm o m i (if st (o * 4) = 11 then nI o else nI (i + 1)), pl, op, el, so, jl, dl_row (fun o => sv (D * 8 + o)) pc 8, sv, bk, be, Or.inl rfl, fun _ => ⟨by omega, row, fun d hd => h3 d (by omega), fun d hd => h4 d (by omega), fun d hd => h5 d (by omega), dl_K_x hi h6 k ?_ ?_ ?_ ?_⟩, fun post q => dx_st10 (by omega) o2 (by omega) (by omega) (p0.trans k) (fun w => absurd (m2.symm.trans w) (dl_nm1 (by omega))) (fun m' w1 w2 => ?_) (Or.inr ⟨m, by omega, m2⟩), fun cl' hc post q => dy_st10 (by omega) (by omega) k q⟩
      · unfold dl_j2 dl_j1
        rw [pk_un (by omega), pk_un (by omega), pk_us]
        exact o4.symm
      · intro q hq w
        have e := no q hq w
        subst e
        unfold dl_j2
        rw [pk_un (fun z => mo z.symm), pk_us]
        exact m5.symm
      · intro q hq w
        have e := nm q hq w
        subst e
        unfold dl_j2
        rw [pk_us]
        exact m6.symm
      · intro q hq w1 w2
        unfold dl_j2 dl_j1
        rw [pk_un (fun z => w2 (by rw [z]; exact m2)), pk_un (fun z => w1 (by rw [z]; exact o2)), pk_un (by omega), pk_un (fun z => w1 (by rw [z]; exact o2))]
      · have e := (nI_eq (show m' < 2 ^ 31 by omega) (show m < 2 ^ 31 by omega)).mp (w2.symm.trans m2)
        subst e
        exact q
theorem dl_g {P L i D : Nat} (hP : P ≤ 8) (hL : L ≤ 64) (hi : i < L) (hA : dl_A P dA aA) (h : dl_CR P L i D sk pl op el jm pc sv bk be) (hp : dl_P L st sk sa sb sc) : dl_G P L i D xC xA xQ xS xK yC yQ yS yK dA aA po st jm pl op el so ip va ov oc ed sk sa sb sc yi yv yo yn jl pc sv bk be := by
  obtain ⟨p0, p1, p2, p3, p4⟩ := hp i hi
  rcases p4 with ⟨k, a⟩ | ⟨k, a, b⟩ | ⟨k, a, b⟩ | ⟨k, a, b, c⟩ | ⟨k, a⟩ | k | k | ⟨k, a, b⟩
  · exact dl_g1 hP hL hi hA h hp k a
  · exact dl_g2 hP hL hi hA h hp k a b
  · exact dl_g13 hP hL hi hA h hp k a b
  · rcases k with k | k | k | k | k
    · exact dl_g3 hP hL hi hA h hp k a b c
    · exact dl_g4 hP hL hi hA h hp k a b c
    · exact dl_g5 hP hL hi hA h hp k a b c
    · exact dl_g6 hP hL hi hA h hp k a b c
    · exact dl_g7 hP hL hi hA h hp k a b c
  · rcases k with k | k
    · exact dl_g8 hP hL hi hA h hp k a
    · exact dl_g11 hP hL hi hA h hp k a
  · exact dl_g9 hP hL hi hA h hp k
  · exact dl_g10 hP hL hi hA h hp k
  · exact dl_g12 hP hL hi hA h hp k a b
end
