/-! addStmt -/
section
variable {xP xC xA xL xO xQ xS xK yP yC yA yL yQ yS yK yD : Int32} {dA aA po st jm pl op el so ip va ov oc ed cl py sk sa sb sc yi yv yo yn jl pc sv bk be : Nat → Int32}
def dl_w (st : Nat → Int32) (L : Nat) (k a b c : Int32) : Nat → Int32 := upd (upd (upd (upd st (L * 4) k) (L * 4 + 1) a) (L * 4 + 2) b) (L * 4 + 3) c
theorem dl_Pw {L : Nat} {k a b c : Int32} (h : dl_P L st sk sa sb sc) (ok : dl_ok k a b c) : dl_P (L + 1) (dl_w st L k a b c) (upd sk L k) (upd sa L a) (upd sb L b) (upd sc L c) := by
  intro i hi
  unfold dl_w
  by_cases e : i = L
  · subst e
    rw [pk_us (f := sk), pk_us (f := sa), pk_us (f := sb), pk_us (f := sc)]
    refine ⟨?_, ?_, ?_, ?_, ok⟩
    · rw [pk_un (by omega), pk_un (by omega), pk_un (by omega), pk_us]
    · rw [pk_un (by omega), pk_un (by omega), pk_us]
    · rw [pk_un (by omega), pk_us]
    · rw [pk_us]
  · rw [pk_un (f := sk) e, pk_un (f := sa) e, pk_un (f := sb) e, pk_un (f := sc) e]
    obtain ⟨p0, p1, p2, p3, p4⟩ := h i (by omega)
    refine ⟨?_, ?_, ?_, ?_, p4⟩
    · rw [pk_un (by omega), pk_un (by omega), pk_un (by omega), pk_un (by omega), p0]
    · rw [pk_un (by omega), pk_un (by omega), pk_un (by omega), pk_un (by omega), p1]
    · rw [pk_un (by omega), pk_un (by omega), pk_un (by omega), pk_un (by omega), p2]
    · rw [pk_un (by omega), pk_un (by omega), pk_un (by omega), pk_un (by omega), p3]
theorem dx_add0 {post : Int32 → SX → Prop} {L : Nat} {k a b c : Int32} (hL : L < 64) (h : post (nI L) (xP, xC, xA, nI (L + 1), xO, 0, 0, -1, dA, aA, po, dl_w st L k 0 0 0, jm, pl, op, el, so, ip, va, ov, dl_zn oc 4)) : ∀ x6 : Int32, x6 = nI L * 4 → (vp_in x6 256 ∧ ∀ s7 : Nat → Int32, s7 = upd st x6.toNatClampNeg k → (((0 : Int32) < 1 → wX_addStmt_65 post b c 0 x6 0 (x6 + 1) xP xC xA (nI L) xO xQ xS xK dA aA po s7 jm pl op el so ip va ov oc) ∧ (¬ (0 : Int32) < 1 → wX_addStmt_65 post b c 0 x6 a (x6 + 1) xP xC xA (nI L) xO xQ xS xK dA aA po s7 jm pl op el so ip va ov oc))) := by
  obtain ⟨v0, c0⟩ := dl_s0 hL
  obtain ⟨v1, c1⟩ := dl_s1 hL
  obtain ⟨v2, c2⟩ := dl_s2 hL
  obtain ⟨v3, c3⟩ := dl_s3 hL
  refine nm_r (dl_m4 L) ⟨v0, nm_r (e' := upd st (L * 4) k) (by rw [c0]) (br_t (by decide) ?_)⟩
  unfold wX_addStmt_65
  refine ⟨v1, nm_r (e' := upd (upd st (L * 4) k) (L * 4 + 1) 0) (by rw [c1]) (br_t (by decide) ?_)⟩
  unfold wX_addStmt_85
  refine ⟨v2, nm_r (e' := upd (upd (upd st (L * 4) k) (L * 4 + 1) 0) (L * 4 + 2) 0) (by rw [c2]) (br_t (by decide) ?_)⟩
  unfold wX_addStmt_106
  refine ⟨v3, nm_r (e' := dl_w st L k 0 0 0) (by rw [c3]; rfl) (nm_r (nI_1 L) (dx_reset ?_))⟩
  show post (nI (L + 1) - 1) _
  rw [nI_pred]
  exact h
theorem dx_add1 {post : Int32 → SX → Prop} {L : Nat} {k a b c : Int32} (hL : L < 64) (h : post (nI L) (xP, xC, xA, nI (L + 1), xO, 0, 0, -1, dA, aA, po, dl_w st L k a 0 0, jm, pl, op, el, so, ip, va, ov, dl_zn oc 4)) : ∀ x6 : Int32, x6 = nI L * 4 → (vp_in x6 256 ∧ ∀ s7 : Nat → Int32, s7 = upd st x6.toNatClampNeg k → (((1 : Int32) < 1 → wX_addStmt_65 post b c 1 x6 0 (x6 + 1) xP xC xA (nI L) xO xQ xS xK dA aA po s7 jm pl op el so ip va ov oc) ∧ (¬ (1 : Int32) < 1 → wX_addStmt_65 post b c 1 x6 a (x6 + 1) xP xC xA (nI L) xO xQ xS xK dA aA po s7 jm pl op el so ip va ov oc))) := by
  obtain ⟨v0, c0⟩ := dl_s0 hL
  obtain ⟨v1, c1⟩ := dl_s1 hL
  obtain ⟨v2, c2⟩ := dl_s2 hL
  obtain ⟨v3, c3⟩ := dl_s3 hL
  refine nm_r (dl_m4 L) ⟨v0, nm_r (e' := upd st (L * 4) k) (by rw [c0]) (br_f (by decide) ?_)⟩
  unfold wX_addStmt_65
  refine ⟨v1, nm_r (e' := upd (upd st (L * 4) k) (L * 4 + 1) a) (by rw [c1]) (br_t (by decide) ?_)⟩
  unfold wX_addStmt_85
  refine ⟨v2, nm_r (e' := upd (upd (upd st (L * 4) k) (L * 4 + 1) a) (L * 4 + 2) 0) (by rw [c2]) (br_t (by decide) ?_)⟩
  unfold wX_addStmt_106
  refine ⟨v3, nm_r (e' := dl_w st L k a 0 0) (by rw [c3]; rfl) (nm_r (nI_1 L) (dx_reset ?_))⟩
  show post (nI (L + 1) - 1) _
  rw [nI_pred]
  exact h
theorem dx_add2 {post : Int32 → SX → Prop} {L : Nat} {k a b c : Int32} (hL : L < 64) (h : post (nI L) (xP, xC, xA, nI (L + 1), xO, 0, 0, -1, dA, aA, po, dl_w st L k a b 0, jm, pl, op, el, so, ip, va, ov, dl_zn oc 4)) : ∀ x6 : Int32, x6 = nI L * 4 → (vp_in x6 256 ∧ ∀ s7 : Nat → Int32, s7 = upd st x6.toNatClampNeg k → (((2 : Int32) < 1 → wX_addStmt_65 post b c 2 x6 0 (x6 + 1) xP xC xA (nI L) xO xQ xS xK dA aA po s7 jm pl op el so ip va ov oc) ∧ (¬ (2 : Int32) < 1 → wX_addStmt_65 post b c 2 x6 a (x6 + 1) xP xC xA (nI L) xO xQ xS xK dA aA po s7 jm pl op el so ip va ov oc))) := by
  obtain ⟨v0, c0⟩ := dl_s0 hL
  obtain ⟨v1, c1⟩ := dl_s1 hL
  obtain ⟨v2, c2⟩ := dl_s2 hL
  obtain ⟨v3, c3⟩ := dl_s3 hL
  refine nm_r (dl_m4 L) ⟨v0, nm_r (e' := upd st (L * 4) k) (by rw [c0]) (br_f (by decide) ?_)⟩
  unfold wX_addStmt_65
  refine ⟨v1, nm_r (e' := upd (upd st (L * 4) k) (L * 4 + 1) a) (by rw [c1]) (br_f (by decide) ?_)⟩
  unfold wX_addStmt_85
  refine ⟨v2, nm_r (e' := upd (upd (upd st (L * 4) k) (L * 4 + 1) a) (L * 4 + 2) b) (by rw [c2]) (br_t (by decide) ?_)⟩
  unfold wX_addStmt_106
  refine ⟨v3, nm_r (e' := dl_w st L k a b 0) (by rw [c3]; rfl) (nm_r (nI_1 L) (dx_reset ?_))⟩
  show post (nI (L + 1) - 1) _
  rw [nI_pred]
  exact h
theorem dx_add3 {post : Int32 → SX → Prop} {L : Nat} {k a b c : Int32} (hL : L < 64) (h : post (nI L) (xP, xC, xA, nI (L + 1), xO, 0, 0, -1, dA, aA, po, dl_w st L k a b c, jm, pl, op, el, so, ip, va, ov, dl_zn oc 4)) : ∀ x6 : Int32, x6 = nI L * 4 → (vp_in x6 256 ∧ ∀ s7 : Nat → Int32, s7 = upd st x6.toNatClampNeg k → (((3 : Int32) < 1 → wX_addStmt_65 post b c 3 x6 0 (x6 + 1) xP xC xA (nI L) xO xQ xS xK dA aA po s7 jm pl op el so ip va ov oc) ∧ (¬ (3 : Int32) < 1 → wX_addStmt_65 post b c 3 x6 a (x6 + 1) xP xC xA (nI L) xO xQ xS xK dA aA po s7 jm pl op el so ip va ov oc))) := by
  obtain ⟨v0, c0⟩ := dl_s0 hL
  obtain ⟨v1, c1⟩ := dl_s1 hL
  obtain ⟨v2, c2⟩ := dl_s2 hL
  obtain ⟨v3, c3⟩ := dl_s3 hL
  refine nm_r (dl_m4 L) ⟨v0, nm_r (e' := upd st (L * 4) k) (by rw [c0]) (br_f (by decide) ?_)⟩
  unfold wX_addStmt_65
  refine ⟨v1, nm_r (e' := upd (upd st (L * 4) k) (L * 4 + 1) a) (by rw [c1]) (br_f (by decide) ?_)⟩
  unfold wX_addStmt_85
  refine ⟨v2, nm_r (e' := upd (upd (upd st (L * 4) k) (L * 4 + 1) a) (L * 4 + 2) b) (by rw [c2]) (br_f (by decide) ?_)⟩
  unfold wX_addStmt_106
  refine ⟨v3, nm_r (e' := dl_w st L k a b c) (by rw [c3]; rfl) (nm_r (nI_1 L) (dx_reset ?_))⟩
  show post (nI (L + 1) - 1) _
  rw [nI_pred]
  exact h
theorem dy_add {post : Int32 → SY → Prop} {L : Nat} {k a b c : Int32} (hL : L < 64) (h : post (nI L) (yP, yC, yA, nI (L + 1), 0, 0, -1, yD, ed, cl, py, upd sk L k, upd sa L a, upd sb L b, upd sc L c, yi, yv, yo, dl_zn yn 4, jl, pc, sv, bk, be)) : wY_addStmt_205 post k a b c yP yC yA (nI L) yQ yS yK yD ed cl py sk sa sb sc yi yv yo yn jl pc sv bk be := by
  have v : vp_in (nI L) 64 := vp_in_nI hL (by omega)
  have cL := dl_c (show L < 2 ^ 31 by omega)
  unfold wY_addStmt_205
  refine ⟨v, nm_r (e' := upd sk L k) (by rw [cL]) ⟨v, nm_r (e' := upd sa L a) (by rw [cL]) ⟨v, nm_r (e' := upd sb L b) (by rw [cL]) ⟨v, nm_r (e' := upd sc L c) (by rw [cL]) (nm_r (nI_1 L) (dy_reset ?_))⟩⟩⟩⟩
  show post (nI (L + 1) - 1) _
  rw [nI_pred]
  exact h
theorem dl_a1 {kk P C L q : Nat} {a b c : Int32} (Q : dl_Q P C L q xS dA aA st jm oc ed sk sa sb sc) (hLC : L < C) : wpX_addStmt (fun r u' => wpY_addStmt (fun r' v' => r' = r ∧ i_Rel kk u' v') (nI P, nI C, xA, nI L, nI q, xS, xK, yD, ed, cl, po, sk, sa, sb, sc, ip, va, ov, oc, jl, pc, sv, bk, be) 1 a b c) (nI P, nI C, xA, nI L, xO, nI q, xS, xK, dA, aA, po, st, jm, pl, op, el, so, ip, va, ov, oc) 1 a b c := by
  obtain ⟨⟨P2, P8⟩, ⟨LC, C64⟩, qL, hD, hA, hE, hp, ho, hj⟩ := id Q
  have L64 : L < 64 := by omega
  have nf : ¬ nI C ≤ nI L := nI_ge hLC (by omega)
  have lt : nI L < nI C := nI_lt hLC (by omega)
  have J : i_Rel kk (nI P, nI C, xA, nI L, xO, nI q, xS, xK, dA, aA, po, st, jm, pl, op, el, so, ip, va, ov, oc) (nI P, nI C, xA, nI L, nI q, xS, xK, yD, ed, cl, po, sk, sa, sb, sc, ip, va, ov, oc, jl, pc, sv, bk, be) := dl_mk Q
  rcases dl_rg a (n := 16) (by omega) with ba | ⟨t, ht, rfl⟩
  · skip
    unfold wpX_addStmt
    refine br_f nf ?_
    unfold wpX_operandsFit
    refine br_f (by decide) (br_f (by decide) (br_t rfl (dx_isVariable0 ba ⟨rfl, br_t rfl ?_⟩)))
    unfold wpY_addStmt
    exact br_f (by decide) (br_f (by decide) (br_t lt (br_t rfl (dy_isVar0 ba (br_t rfl ⟨rfl, J⟩)))))
  · skip
    unfold wpX_addStmt
    refine br_f nf ?_
    unfold wpX_operandsFit
    refine br_f (by decide) (br_f (by decide) (br_t rfl (dx_isVariable1 ht ⟨rfl, br_f (by decide) (?_)⟩)))
    unfold wpX_operandCount
    refine br_f (by decide) (br_f (by decide) (br_t rfl (dx_add2 L64 ?_)))
    unfold wpY_addStmt
    exact br_f (by decide) (br_f (by decide) (br_t lt (br_t rfl (dy_isVar1 ht (br_f (by decide) (dy_add L64 ⟨rfl, dl_mkr (L := L + 1) ⟨⟨P2, P8⟩, ⟨by omega, C64⟩, Nat.zero_le _, hD, hA, hE, dl_Pw hp (Or.inl ⟨rfl, ⟨t, ht, rfl⟩⟩), dl_zn4 oc, fun z => absurd rfl z⟩⟩))))))
theorem dl_a2 {kk P C L q : Nat} {a b c : Int32} (Q : dl_Q P C L q xS dA aA st jm oc ed sk sa sb sc) (hLC : L < C) : wpX_addStmt (fun r u' => wpY_addStmt (fun r' v' => r' = r ∧ i_Rel kk u' v') (nI P, nI C, xA, nI L, nI q, xS, xK, yD, ed, cl, po, sk, sa, sb, sc, ip, va, ov, oc, jl, pc, sv, bk, be) 2 a b c) (nI P, nI C, xA, nI L, xO, nI q, xS, xK, dA, aA, po, st, jm, pl, op, el, so, ip, va, ov, oc) 2 a b c := by
  obtain ⟨⟨P2, P8⟩, ⟨LC, C64⟩, qL, hD, hA, hE, hp, ho, hj⟩ := id Q
  have L64 : L < 64 := by omega
  have nf : ¬ nI C ≤ nI L := nI_ge hLC (by omega)
  have lt : nI L < nI C := nI_lt hLC (by omega)
  have J : i_Rel kk (nI P, nI C, xA, nI L, xO, nI q, xS, xK, dA, aA, po, st, jm, pl, op, el, so, ip, va, ov, oc) (nI P, nI C, xA, nI L, nI q, xS, xK, yD, ed, cl, po, sk, sa, sb, sc, ip, va, ov, oc, jl, pc, sv, bk, be) := dl_mk Q
  rcases dl_rg a (n := 16) (by omega) with ba | ⟨t, ht, rfl⟩
  · skip
    unfold wpX_addStmt
    refine br_f nf ?_
    unfold wpX_operandsFit
    refine br_f (by decide) (br_f (by decide) (br_f (by decide) (br_t rfl (dx_isVariable0 ba (br_t rfl (br_t rfl ?_))))))
    unfold wpY_addStmt
    exact br_f (by decide) (br_f (by decide) (br_t lt (br_f (by decide) (br_t rfl (dy_isVar0 ba (br_t rfl ⟨rfl, J⟩))))))
  rcases dl_rg b (n := 16) (by omega) with bb | ⟨s, hs, rfl⟩
  · skip
    unfold wpX_addStmt
    refine br_f nf ?_
    unfold wpX_operandsFit
    refine br_f (by decide) (br_f (by decide) (br_f (by decide) (br_t rfl (dx_isVariable1 ht (br_f (by decide) (dx_isVariable0 bb (br_t rfl (br_t rfl ?_))))))))
    unfold wpY_addStmt
    exact br_f (by decide) (br_f (by decide) (br_t lt (br_f (by decide) (br_t rfl (dy_isVar1 ht (br_f (by decide) (dy_isVar0 bb (br_t rfl ⟨rfl, J⟩))))))))
  unfold wpX_addStmt
  refine br_f nf ?_
  unfold wpX_operandsFit
  refine br_f (by decide) (br_f (by decide) (br_f (by decide) (br_t rfl (dx_isVariable1 ht (br_f (by decide) (dx_isVariable1 hs (br_f (by decide) (br_f (by decide) (?_)))))))))
  unfold wpX_operandCount
  refine br_f (by decide) (br_f (by decide) (br_f (by decide) (br_t rfl (dx_add2 L64 ?_))))
  unfold wpY_addStmt
  exact br_f (by decide) (br_f (by decide) (br_t lt (br_f (by decide) (br_t rfl (dy_isVar1 ht (br_f (by decide) (dy_isVar1 hs (br_f (by decide) (dy_add L64 ⟨rfl, dl_mkr (L := L + 1) ⟨⟨P2, P8⟩, ⟨by omega, C64⟩, Nat.zero_le _, hD, hA, hE, dl_Pw hp (Or.inr (Or.inl ⟨rfl, ⟨t, ht, rfl⟩, ⟨s, hs, rfl⟩⟩)), dl_zn4 oc, fun z => absurd rfl z⟩⟩)))))))))
theorem dl_a3 {kk P C L q : Nat} {a b c : Int32} (Q : dl_Q P C L q xS dA aA st jm oc ed sk sa sb sc) (hLC : L < C) : wpX_addStmt (fun r u' => wpY_addStmt (fun r' v' => r' = r ∧ i_Rel kk u' v') (nI P, nI C, xA, nI L, nI q, xS, xK, yD, ed, cl, po, sk, sa, sb, sc, ip, va, ov, oc, jl, pc, sv, bk, be) 3 a b c) (nI P, nI C, xA, nI L, xO, nI q, xS, xK, dA, aA, po, st, jm, pl, op, el, so, ip, va, ov, oc) 3 a b c := by
  obtain ⟨⟨P2, P8⟩, ⟨LC, C64⟩, qL, hD, hA, hE, hp, ho, hj⟩ := id Q
  have L64 : L < 64 := by omega
  have nf : ¬ nI C ≤ nI L := nI_ge hLC (by omega)
  have lt : nI L < nI C := nI_lt hLC (by omega)
  have J : i_Rel kk (nI P, nI C, xA, nI L, xO, nI q, xS, xK, dA, aA, po, st, jm, pl, op, el, so, ip, va, ov, oc) (nI P, nI C, xA, nI L, nI q, xS, xK, yD, ed, cl, po, sk, sa, sb, sc, ip, va, ov, oc, jl, pc, sv, bk, be) := dl_mk Q
  rcases dl_rg a (n := 16) (by omega) with ba | ⟨t, ht, rfl⟩
  · skip
    unfold wpX_addStmt
    refine br_f nf ?_
    unfold wpX_operandsFit
    refine br_f (by decide) (br_f (by decide) (br_f (by decide) (br_f (by decide) (br_t rfl (dx_isVariable0 ba (br_t rfl (br_t rfl ?_)))))))
    unfold wpY_addStmt
    exact br_f (by decide) (br_f (by decide) (br_t lt (br_f (by decide) (br_f (by decide) (br_f (by decide) (br_f (by decide) (br_f (by decide) (dy_isVar0 ba (br_t rfl ⟨rfl, J⟩)))))))))
  rcases dl_rg b (n := 16) (by omega) with bb | ⟨s, hs, rfl⟩
  · skip
    unfold wpX_addStmt
    refine br_f nf ?_
    unfold wpX_operandsFit
    refine br_f (by decide) (br_f (by decide) (br_f (by decide) (br_f (by decide) (br_t rfl (dx_isVariable1 ht (br_f (by decide) (dx_isVariable0 bb (br_t rfl (br_t rfl ?_)))))))))
    unfold wpY_addStmt
    exact br_f (by decide) (br_f (by decide) (br_t lt (br_f (by decide) (br_f (by decide) (br_f (by decide) (br_f (by decide) (br_f (by decide) (dy_isVar1 ht (br_f (by decide) (dy_isVar0 bb (br_t rfl ⟨rfl, J⟩)))))))))))
  rcases dl_rg c (n := 16) (by omega) with bc | ⟨m, hm, rfl⟩
  · skip
    unfold wpX_addStmt
    refine br_f nf ?_
    unfold wpX_operandsFit
    refine br_f (by decide) (br_f (by decide) (br_f (by decide) (br_f (by decide) (br_t rfl (dx_isVariable1 ht (br_f (by decide) (dx_isVariable1 hs (br_f (by decide) (dx_isVariable0 bc (br_t rfl (br_t rfl ?_)))))))))))
    unfold wpY_addStmt
    exact br_f (by decide) (br_f (by decide) (br_t lt (br_f (by decide) (br_f (by decide) (br_f (by decide) (br_f (by decide) (br_f (by decide) (dy_isVar1 ht (br_f (by decide) (dy_isVar1 hs (br_f (by decide) (dy_isVar0 bc (br_t rfl ⟨rfl, J⟩)))))))))))))
  unfold wpX_addStmt
  refine br_f nf ?_
  unfold wpX_operandsFit
  refine br_f (by decide) (br_f (by decide) (br_f (by decide) (br_f (by decide) (br_t rfl (dx_isVariable1 ht (br_f (by decide) (dx_isVariable1 hs (br_f (by decide) (dx_isVariable1 hm (br_f (by decide) (br_f (by decide) (?_))))))))))))
  unfold wpX_operandCount
  refine br_f (by decide) (br_f (by decide) (br_f (by decide) (br_f (by decide) (br_t rfl (dx_add3 L64 ?_)))))
  unfold wpY_addStmt
  exact br_f (by decide) (br_f (by decide) (br_t lt (br_f (by decide) (br_f (by decide) (br_f (by decide) (br_f (by decide) (br_f (by decide) (dy_isVar1 ht (br_f (by decide) (dy_isVar1 hs (br_f (by decide) (dy_isVar1 hm (br_f (by decide) (dy_add L64 ⟨rfl, dl_mkr (L := L + 1) ⟨⟨P2, P8⟩, ⟨by omega, C64⟩, Nat.zero_le _, hD, hA, hE, dl_Pw hp (Or.inr (Or.inr (Or.inr (Or.inl ⟨Or.inl rfl, ⟨t, ht, rfl⟩, ⟨s, hs, rfl⟩, ⟨m, hm, rfl⟩⟩)))), dl_zn4 oc, fun z => absurd rfl z⟩⟩))))))))))))))
theorem dl_a4 {kk P C L q : Nat} {a b c : Int32} (Q : dl_Q P C L q xS dA aA st jm oc ed sk sa sb sc) (hLC : L < C) : wpX_addStmt (fun r u' => wpY_addStmt (fun r' v' => r' = r ∧ i_Rel kk u' v') (nI P, nI C, xA, nI L, nI q, xS, xK, yD, ed, cl, po, sk, sa, sb, sc, ip, va, ov, oc, jl, pc, sv, bk, be) 4 a b c) (nI P, nI C, xA, nI L, xO, nI q, xS, xK, dA, aA, po, st, jm, pl, op, el, so, ip, va, ov, oc) 4 a b c := by
  obtain ⟨⟨P2, P8⟩, ⟨LC, C64⟩, qL, hD, hA, hE, hp, ho, hj⟩ := id Q
  have L64 : L < 64 := by omega
  have nf : ¬ nI C ≤ nI L := nI_ge hLC (by omega)
  have lt : nI L < nI C := nI_lt hLC (by omega)
  have J : i_Rel kk (nI P, nI C, xA, nI L, xO, nI q, xS, xK, dA, aA, po, st, jm, pl, op, el, so, ip, va, ov, oc) (nI P, nI C, xA, nI L, nI q, xS, xK, yD, ed, cl, po, sk, sa, sb, sc, ip, va, ov, oc, jl, pc, sv, bk, be) := dl_mk Q
  rcases dl_rg a (n := 16) (by omega) with ba | ⟨t, ht, rfl⟩
  · skip
    unfold wpX_addStmt
    refine br_f nf ?_
    unfold wpX_operandsFit
    refine br_f (by decide) (br_f (by decide) (br_f (by decide) (br_f (by decide) (br_f (by decide) (br_t rfl (dx_isVariable0 ba (br_t rfl (br_t rfl ?_))))))))
    unfold wpY_addStmt
    exact br_f (by decide) (br_f (by decide) (br_t lt (br_f (by decide) (br_f (by decide) (br_f (by decide) (br_f (by decide) (br_f (by decide) (dy_isVar0 ba (br_t rfl ⟨rfl, J⟩)))))))))
  rcases dl_rg b (n := 16) (by omega) with bb | ⟨s, hs, rfl⟩
  · skip
    unfold wpX_addStmt
    refine br_f nf ?_
    unfold wpX_operandsFit
    refine br_f (by decide) (br_f (by decide) (br_f (by decide) (br_f (by decide) (br_f (by decide) (br_t rfl (dx_isVariable1 ht (br_f (by decide) (dx_isVariable0 bb (br_t rfl (br_t rfl ?_))))))))))
    unfold wpY_addStmt
    exact br_f (by decide) (br_f (by decide) (br_t lt (br_f (by decide) (br_f (by decide) (br_f (by decide) (br_f (by decide) (br_f (by decide) (dy_isVar1 ht (br_f (by decide) (dy_isVar0 bb (br_t rfl ⟨rfl, J⟩)))))))))))
  rcases dl_rg c (n := 16) (by omega) with bc | ⟨m, hm, rfl⟩
  · skip
    unfold wpX_addStmt
    refine br_f nf ?_
    unfold wpX_operandsFit
    refine br_f (by decide) (br_f (by decide) (br_f (by decide) (br_f (by decide) (br_f (by decide) (br_t rfl (dx_isVariable1 ht (br_f (by decide) (dx_isVariable1 hs (br_f (by decide) (dx_isVariable0 bc (br_t rfl (br_t rfl ?_))))))))))))
    unfold wpY_addStmt
    exact br_f (by decide) (br_f (by decide) (br_t lt (br_f (by decide) (br_f (by decide) (br_f (by decide) (br_f (by decide) (br_f (by decide) (dy_isVar1 ht (br_f (by decide) (dy_isVar1 hs (br_f (by decide) (dy_isVar0 bc (br_t rfl ⟨rfl, J⟩)))))))))))))
  unfold wpX_addStmt
  refine br_f nf ?_
  unfold wpX_operandsFit
  refine br_f (by decide) (br_f (by decide) (br_f (by decide) (br_f (by decide) (br_f (by decide) (br_t rfl (dx_isVariable1 ht (br_f (by decide) (dx_isVariable1 hs (br_f (by decide) (dx_isVariable1 hm (br_f (by decide) (br_f (by decide) (?_)))))))))))))
  unfold wpX_operandCount
  refine br_f (by decide) (br_f (by decide) (br_f (by decide) (br_f (by decide) (br_f (by decide) (br_t rfl (dx_add3 L64 ?_))))))
  unfold wpY_addStmt
  exact br_f (by decide) (br_f (by decide) (br_t lt (br_f (by decide) (br_f (by decide) (br_f (by decide) (br_f (by decide) (br_f (by decide) (dy_isVar1 ht (br_f (by decide) (dy_isVar1 hs (br_f (by decide) (dy_isVar1 hm (br_f (by decide) (dy_add L64 ⟨rfl, dl_mkr (L := L + 1) ⟨⟨P2, P8⟩, ⟨by omega, C64⟩, Nat.zero_le _, hD, hA, hE, dl_Pw hp (Or.inr (Or.inr (Or.inr (Or.inl ⟨Or.inr (Or.inl rfl), ⟨t, ht, rfl⟩, ⟨s, hs, rfl⟩, ⟨m, hm, rfl⟩⟩)))), dl_zn4 oc, fun z => absurd rfl z⟩⟩))))))))))))))
theorem dl_a5 {kk P C L q : Nat} {a b c : Int32} (Q : dl_Q P C L q xS dA aA st jm oc ed sk sa sb sc) (hLC : L < C) : wpX_addStmt (fun r u' => wpY_addStmt (fun r' v' => r' = r ∧ i_Rel kk u' v') (nI P, nI C, xA, nI L, nI q, xS, xK, yD, ed, cl, po, sk, sa, sb, sc, ip, va, ov, oc, jl, pc, sv, bk, be) 5 a b c) (nI P, nI C, xA, nI L, xO, nI q, xS, xK, dA, aA, po, st, jm, pl, op, el, so, ip, va, ov, oc) 5 a b c := by
  obtain ⟨⟨P2, P8⟩, ⟨LC, C64⟩, qL, hD, hA, hE, hp, ho, hj⟩ := id Q
  have L64 : L < 64 := by omega
  have nf : ¬ nI C ≤ nI L := nI_ge hLC (by omega)
  have lt : nI L < nI C := nI_lt hLC (by omega)
  have J : i_Rel kk (nI P, nI C, xA, nI L, xO, nI q, xS, xK, dA, aA, po, st, jm, pl, op, el, so, ip, va, ov, oc) (nI P, nI C, xA, nI L, nI q, xS, xK, yD, ed, cl, po, sk, sa, sb, sc, ip, va, ov, oc, jl, pc, sv, bk, be) := dl_mk Q
  rcases dl_rg a (n := 16) (by omega) with ba | ⟨t, ht, rfl⟩
  · skip
    unfold wpX_addStmt
    refine br_f nf ?_
    unfold wpX_operandsFit
    refine br_f (by decide) (br_f (by decide) (br_f (by decide) (br_f (by decide) (br_f (by decide) (br_f (by decide) (br_t rfl (dx_isVariable0 ba (br_t rfl (br_t rfl ?_)))))))))
    unfold wpY_addStmt
    exact br_f (by decide) (br_f (by decide) (br_t lt (br_f (by decide) (br_f (by decide) (br_f (by decide) (br_f (by decide) (br_f (by decide) (dy_isVar0 ba (br_t rfl ⟨rfl, J⟩)))))))))
  rcases dl_rg b (n := 16) (by omega) with bb | ⟨s, hs, rfl⟩
  · skip
    unfold wpX_addStmt
    refine br_f nf ?_
    unfold wpX_operandsFit
    refine br_f (by decide) (br_f (by decide) (br_f (by decide) (br_f (by decide) (br_f (by decide) (br_f (by decide) (br_t rfl (dx_isVariable1 ht (br_f (by decide) (dx_isVariable0 bb (br_t rfl (br_t rfl ?_)))))))))))
    unfold wpY_addStmt
    exact br_f (by decide) (br_f (by decide) (br_t lt (br_f (by decide) (br_f (by decide) (br_f (by decide) (br_f (by decide) (br_f (by decide) (dy_isVar1 ht (br_f (by decide) (dy_isVar0 bb (br_t rfl ⟨rfl, J⟩)))))))))))
  rcases dl_rg c (n := 16) (by omega) with bc | ⟨m, hm, rfl⟩
  · skip
    unfold wpX_addStmt
    refine br_f nf ?_
    unfold wpX_operandsFit
    refine br_f (by decide) (br_f (by decide) (br_f (by decide) (br_f (by decide) (br_f (by decide) (br_f (by decide) (br_t rfl (dx_isVariable1 ht (br_f (by decide) (dx_isVariable1 hs (br_f (by decide) (dx_isVariable0 bc (br_t rfl (br_t rfl ?_)))))))))))))
    unfold wpY_addStmt
    exact br_f (by decide) (br_f (by decide) (br_t lt (br_f (by decide) (br_f (by decide) (br_f (by decide) (br_f (by decide) (br_f (by decide) (dy_isVar1 ht (br_f (by decide) (dy_isVar1 hs (br_f (by decide) (dy_isVar0 bc (br_t rfl ⟨rfl, J⟩)))))))))))))
  unfold wpX_addStmt
  refine br_f nf ?_
  unfold wpX_operandsFit
  refine br_f (by decide) (br_f (by decide) (br_f (by decide) (br_f (by decide) (br_f (by decide) (br_f (by decide) (br_t rfl (dx_isVariable1 ht (br_f (by decide) (dx_isVariable1 hs (br_f (by decide) (dx_isVariable1 hm (br_f (by decide) (br_f (by decide) (?_))))))))))))))
  unfold wpX_operandCount
  refine br_f (by decide) (br_f (by decide) (br_f (by decide) (br_f (by decide) (br_f (by decide) (br_f (by decide) (br_t rfl (dx_add3 L64 ?_)))))))
  unfold wpY_addStmt
  exact br_f (by decide) (br_f (by decide) (br_t lt (br_f (by decide) (br_f (by decide) (br_f (by decide) (br_f (by decide) (br_f (by decide) (dy_isVar1 ht (br_f (by decide) (dy_isVar1 hs (br_f (by decide) (dy_isVar1 hm (br_f (by decide) (dy_add L64 ⟨rfl, dl_mkr (L := L + 1) ⟨⟨P2, P8⟩, ⟨by omega, C64⟩, Nat.zero_le _, hD, hA, hE, dl_Pw hp (Or.inr (Or.inr (Or.inr (Or.inl ⟨Or.inr (Or.inr (Or.inl rfl)), ⟨t, ht, rfl⟩, ⟨s, hs, rfl⟩, ⟨m, hm, rfl⟩⟩)))), dl_zn4 oc, fun z => absurd rfl z⟩⟩))))))))))))))
theorem dl_a6 {kk P C L q : Nat} {a b c : Int32} (Q : dl_Q P C L q xS dA aA st jm oc ed sk sa sb sc) (hLC : L < C) : wpX_addStmt (fun r u' => wpY_addStmt (fun r' v' => r' = r ∧ i_Rel kk u' v') (nI P, nI C, xA, nI L, nI q, xS, xK, yD, ed, cl, po, sk, sa, sb, sc, ip, va, ov, oc, jl, pc, sv, bk, be) 6 a b c) (nI P, nI C, xA, nI L, xO, nI q, xS, xK, dA, aA, po, st, jm, pl, op, el, so, ip, va, ov, oc) 6 a b c := by
  obtain ⟨⟨P2, P8⟩, ⟨LC, C64⟩, qL, hD, hA, hE, hp, ho, hj⟩ := id Q
  have L64 : L < 64 := by omega
  have nf : ¬ nI C ≤ nI L := nI_ge hLC (by omega)
  have lt : nI L < nI C := nI_lt hLC (by omega)
  have J : i_Rel kk (nI P, nI C, xA, nI L, xO, nI q, xS, xK, dA, aA, po, st, jm, pl, op, el, so, ip, va, ov, oc) (nI P, nI C, xA, nI L, nI q, xS, xK, yD, ed, cl, po, sk, sa, sb, sc, ip, va, ov, oc, jl, pc, sv, bk, be) := dl_mk Q
  rcases dl_rg a (n := 16) (by omega) with ba | ⟨t, ht, rfl⟩
  · skip
    unfold wpX_addStmt
    refine br_f nf ?_
    unfold wpX_operandsFit
    refine br_f (by decide) (br_f (by decide) (br_f (by decide) (br_f (by decide) (br_f (by decide) (br_f (by decide) (br_f (by decide) (br_t rfl (dx_isVariable0 ba (br_t rfl (br_t rfl ?_))))))))))
    unfold wpY_addStmt
    exact br_f (by decide) (br_f (by decide) (br_t lt (br_f (by decide) (br_f (by decide) (br_f (by decide) (br_f (by decide) (br_f (by decide) (dy_isVar0 ba (br_t rfl ⟨rfl, J⟩)))))))))
  rcases dl_rg b (n := 16) (by omega) with bb | ⟨s, hs, rfl⟩
  · skip
    unfold wpX_addStmt
    refine br_f nf ?_
    unfold wpX_operandsFit
    refine br_f (by decide) (br_f (by decide) (br_f (by decide) (br_f (by decide) (br_f (by decide) (br_f (by decide) (br_f (by decide) (br_t rfl (dx_isVariable1 ht (br_f (by decide) (dx_isVariable0 bb (br_t rfl (br_t rfl ?_))))))))))))
    unfold wpY_addStmt
    exact br_f (by decide) (br_f (by decide) (br_t lt (br_f (by decide) (br_f (by decide) (br_f (by decide) (br_f (by decide) (br_f (by decide) (dy_isVar1 ht (br_f (by decide) (dy_isVar0 bb (br_t rfl ⟨rfl, J⟩)))))))))))
  rcases dl_rg c (n := 16) (by omega) with bc | ⟨m, hm, rfl⟩
  · skip
    unfold wpX_addStmt
    refine br_f nf ?_
    unfold wpX_operandsFit
    refine br_f (by decide) (br_f (by decide) (br_f (by decide) (br_f (by decide) (br_f (by decide) (br_f (by decide) (br_f (by decide) (br_t rfl (dx_isVariable1 ht (br_f (by decide) (dx_isVariable1 hs (br_f (by decide) (dx_isVariable0 bc (br_t rfl (br_t rfl ?_))))))))))))))
    unfold wpY_addStmt
    exact br_f (by decide) (br_f (by decide) (br_t lt (br_f (by decide) (br_f (by decide) (br_f (by decide) (br_f (by decide) (br_f (by decide) (dy_isVar1 ht (br_f (by decide) (dy_isVar1 hs (br_f (by decide) (dy_isVar0 bc (br_t rfl ⟨rfl, J⟩)))))))))))))
  unfold wpX_addStmt
  refine br_f nf ?_
  unfold wpX_operandsFit
  refine br_f (by decide) (br_f (by decide) (br_f (by decide) (br_f (by decide) (br_f (by decide) (br_f (by decide) (br_f (by decide) (br_t rfl (dx_isVariable1 ht (br_f (by decide) (dx_isVariable1 hs (br_f (by decide) (dx_isVariable1 hm (br_f (by decide) (br_f (by decide) (?_)))))))))))))))
  unfold wpX_operandCount
  refine br_f (by decide) (br_f (by decide) (br_f (by decide) (br_f (by decide) (br_f (by decide) (br_f (by decide) (br_f (by decide) (br_t rfl (dx_add3 L64 ?_))))))))
  unfold wpY_addStmt
  exact br_f (by decide) (br_f (by decide) (br_t lt (br_f (by decide) (br_f (by decide) (br_f (by decide) (br_f (by decide) (br_f (by decide) (dy_isVar1 ht (br_f (by decide) (dy_isVar1 hs (br_f (by decide) (dy_isVar1 hm (br_f (by decide) (dy_add L64 ⟨rfl, dl_mkr (L := L + 1) ⟨⟨P2, P8⟩, ⟨by omega, C64⟩, Nat.zero_le _, hD, hA, hE, dl_Pw hp (Or.inr (Or.inr (Or.inr (Or.inl ⟨Or.inr (Or.inr (Or.inr (Or.inl rfl))), ⟨t, ht, rfl⟩, ⟨s, hs, rfl⟩, ⟨m, hm, rfl⟩⟩)))), dl_zn4 oc, fun z => absurd rfl z⟩⟩))))))))))))))
theorem dl_a7 {kk P C L q : Nat} {a b c : Int32} (Q : dl_Q P C L q xS dA aA st jm oc ed sk sa sb sc) (hLC : L < C) : wpX_addStmt (fun r u' => wpY_addStmt (fun r' v' => r' = r ∧ i_Rel kk u' v') (nI P, nI C, xA, nI L, nI q, xS, xK, yD, ed, cl, po, sk, sa, sb, sc, ip, va, ov, oc, jl, pc, sv, bk, be) 7 a b c) (nI P, nI C, xA, nI L, xO, nI q, xS, xK, dA, aA, po, st, jm, pl, op, el, so, ip, va, ov, oc) 7 a b c := by
  obtain ⟨⟨P2, P8⟩, ⟨LC, C64⟩, qL, hD, hA, hE, hp, ho, hj⟩ := id Q
  have L64 : L < 64 := by omega
  have nf : ¬ nI C ≤ nI L := nI_ge hLC (by omega)
  have lt : nI L < nI C := nI_lt hLC (by omega)
  have J : i_Rel kk (nI P, nI C, xA, nI L, xO, nI q, xS, xK, dA, aA, po, st, jm, pl, op, el, so, ip, va, ov, oc) (nI P, nI C, xA, nI L, nI q, xS, xK, yD, ed, cl, po, sk, sa, sb, sc, ip, va, ov, oc, jl, pc, sv, bk, be) := dl_mk Q
  rcases dl_rg a (n := 16) (by omega) with ba | ⟨t, ht, rfl⟩
  · skip
    unfold wpX_addStmt
    refine br_f nf ?_
    unfold wpX_operandsFit
    refine br_f (by decide) (br_f (by decide) (br_f (by decide) (br_f (by decide) (br_f (by decide) (br_f (by decide) (br_f (by decide) (br_f (by decide) (br_t rfl (dx_isVariable0 ba (br_t rfl (br_t rfl ?_)))))))))))
    unfold wpY_addStmt
    exact br_f (by decide) (br_f (by decide) (br_t lt (br_f (by decide) (br_f (by decide) (br_f (by decide) (br_f (by decide) (br_f (by decide) (dy_isVar0 ba (br_t rfl ⟨rfl, J⟩)))))))))
  rcases dl_rg b (n := 16) (by omega) with bb | ⟨s, hs, rfl⟩
  · skip
    unfold wpX_addStmt
    refine br_f nf ?_
    unfold wpX_operandsFit
    refine br_f (by decide) (br_f (by decide) (br_f (by decide) (br_f (by decide) (br_f (by decide) (br_f (by decide) (br_f (by decide) (br_f (by decide) (br_t rfl (dx_isVariable1 ht (br_f (by decide) (dx_isVariable0 bb (br_t rfl (br_t rfl ?_)))))))))))))
    unfold wpY_addStmt
    exact br_f (by decide) (br_f (by decide) (br_t lt (br_f (by decide) (br_f (by decide) (br_f (by decide) (br_f (by decide) (br_f (by decide) (dy_isVar1 ht (br_f (by decide) (dy_isVar0 bb (br_t rfl ⟨rfl, J⟩)))))))))))
  rcases dl_rg c (n := 16) (by omega) with bc | ⟨m, hm, rfl⟩
  · skip
    unfold wpX_addStmt
    refine br_f nf ?_
    unfold wpX_operandsFit
    refine br_f (by decide) (br_f (by decide) (br_f (by decide) (br_f (by decide) (br_f (by decide) (br_f (by decide) (br_f (by decide) (br_f (by decide) (br_t rfl (dx_isVariable1 ht (br_f (by decide) (dx_isVariable1 hs (br_f (by decide) (dx_isVariable0 bc (br_t rfl (br_t rfl ?_)))))))))))))))
    unfold wpY_addStmt
    exact br_f (by decide) (br_f (by decide) (br_t lt (br_f (by decide) (br_f (by decide) (br_f (by decide) (br_f (by decide) (br_f (by decide) (dy_isVar1 ht (br_f (by decide) (dy_isVar1 hs (br_f (by decide) (dy_isVar0 bc (br_t rfl ⟨rfl, J⟩)))))))))))))
  unfold wpX_addStmt
  refine br_f nf ?_
  unfold wpX_operandsFit
  refine br_f (by decide) (br_f (by decide) (br_f (by decide) (br_f (by decide) (br_f (by decide) (br_f (by decide) (br_f (by decide) (br_f (by decide) (br_t rfl (dx_isVariable1 ht (br_f (by decide) (dx_isVariable1 hs (br_f (by decide) (dx_isVariable1 hm (br_f (by decide) (br_f (by decide) (?_))))))))))))))))
  unfold wpX_operandCount
  refine br_f (by decide) (br_f (by decide) (br_f (by decide) (br_f (by decide) (br_f (by decide) (br_f (by decide) (br_f (by decide) (br_f (by decide) (br_t rfl (dx_add3 L64 ?_)))))))))
  unfold wpY_addStmt
  exact br_f (by decide) (br_f (by decide) (br_t lt (br_f (by decide) (br_f (by decide) (br_f (by decide) (br_f (by decide) (br_f (by decide) (dy_isVar1 ht (br_f (by decide) (dy_isVar1 hs (br_f (by decide) (dy_isVar1 hm (br_f (by decide) (dy_add L64 ⟨rfl, dl_mkr (L := L + 1) ⟨⟨P2, P8⟩, ⟨by omega, C64⟩, Nat.zero_le _, hD, hA, hE, dl_Pw hp (Or.inr (Or.inr (Or.inr (Or.inl ⟨Or.inr (Or.inr (Or.inr (Or.inr rfl))), ⟨t, ht, rfl⟩, ⟨s, hs, rfl⟩, ⟨m, hm, rfl⟩⟩)))), dl_zn4 oc, fun z => absurd rfl z⟩⟩))))))))))))))
theorem dl_a8 {kk P C L q : Nat} {a b c : Int32} (Q : dl_Q P C L q xS dA aA st jm oc ed sk sa sb sc) (hLC : L < C) : wpX_addStmt (fun r u' => wpY_addStmt (fun r' v' => r' = r ∧ i_Rel kk u' v') (nI P, nI C, xA, nI L, nI q, xS, xK, yD, ed, cl, po, sk, sa, sb, sc, ip, va, ov, oc, jl, pc, sv, bk, be) 8 a b c) (nI P, nI C, xA, nI L, xO, nI q, xS, xK, dA, aA, po, st, jm, pl, op, el, so, ip, va, ov, oc) 8 a b c := by
  obtain ⟨⟨P2, P8⟩, ⟨LC, C64⟩, qL, hD, hA, hE, hp, ho, hj⟩ := id Q
  have L64 : L < 64 := by omega
  have nf : ¬ nI C ≤ nI L := nI_ge hLC (by omega)
  have lt : nI L < nI C := nI_lt hLC (by omega)
  have J : i_Rel kk (nI P, nI C, xA, nI L, xO, nI q, xS, xK, dA, aA, po, st, jm, pl, op, el, so, ip, va, ov, oc) (nI P, nI C, xA, nI L, nI q, xS, xK, yD, ed, cl, po, sk, sa, sb, sc, ip, va, ov, oc, jl, pc, sv, bk, be) := dl_mk Q
  rcases dl_rg a (n := 16) (by omega) with ba | ⟨t, ht, rfl⟩
  · skip
    unfold wpX_addStmt
    refine br_f nf ?_
    unfold wpX_operandsFit
    refine br_f (by decide) (br_f (by decide) (br_f (by decide) (br_f (by decide) (br_f (by decide) (br_f (by decide) (br_f (by decide) (br_f (by decide) (br_f (by decide) (br_t rfl (dx_isVariable0 ba ⟨rfl, br_t rfl ?_⟩))))))))))
    unfold wpY_addStmt
    exact br_f (by decide) (br_f (by decide) (br_t lt (br_f (by decide) (br_f (by decide) (br_f (by decide) (br_f (by decide) (br_t (by decide) (br_t rfl (dy_isVar0 ba (br_t rfl ⟨rfl, J⟩))))))))))
  · skip
    unfold wpX_addStmt
    refine br_f nf ?_
    unfold wpX_operandsFit
    refine br_f (by decide) (br_f (by decide) (br_f (by decide) (br_f (by decide) (br_f (by decide) (br_f (by decide) (br_f (by decide) (br_f (by decide) (br_f (by decide) (br_t rfl (dx_isVariable1 ht ⟨rfl, br_f (by decide) (?_)⟩))))))))))
    unfold wpX_operandCount
    refine br_f (by decide) (br_f (by decide) (br_f (by decide) (br_f (by decide) (br_f (by decide) (br_f (by decide) (br_f (by decide) (br_f (by decide) (br_f (by decide) (br_t rfl (dx_add1 L64 ?_))))))))))
    unfold wpY_addStmt
    exact br_f (by decide) (br_f (by decide) (br_t lt (br_f (by decide) (br_f (by decide) (br_f (by decide) (br_f (by decide) (br_t (by decide) (br_t rfl (dy_isVar1 ht (br_f (by decide) (dy_add L64 ⟨rfl, dl_mkr (L := L + 1) ⟨⟨P2, P8⟩, ⟨by omega, C64⟩, Nat.zero_le _, hD, hA, hE, dl_Pw hp (Or.inr (Or.inr (Or.inr (Or.inr (Or.inl ⟨Or.inl rfl, ⟨t, ht, rfl⟩⟩))))), dl_zn4 oc, fun z => absurd rfl z⟩⟩)))))))))))
theorem dl_a9 {kk P C L q : Nat} {a b c : Int32} (Q : dl_Q P C L q xS dA aA st jm oc ed sk sa sb sc) (hLC : L < C) : wpX_addStmt (fun r u' => wpY_addStmt (fun r' v' => r' = r ∧ i_Rel kk u' v') (nI P, nI C, xA, nI L, nI q, xS, xK, yD, ed, cl, po, sk, sa, sb, sc, ip, va, ov, oc, jl, pc, sv, bk, be) 9 a b c) (nI P, nI C, xA, nI L, xO, nI q, xS, xK, dA, aA, po, st, jm, pl, op, el, so, ip, va, ov, oc) 9 a b c := by
  obtain ⟨⟨P2, P8⟩, ⟨LC, C64⟩, qL, hD, hA, hE, hp, ho, hj⟩ := id Q
  have L64 : L < 64 := by omega
  have nf : ¬ nI C ≤ nI L := nI_ge hLC (by omega)
  have lt : nI L < nI C := nI_lt hLC (by omega)
  have J : i_Rel kk (nI P, nI C, xA, nI L, xO, nI q, xS, xK, dA, aA, po, st, jm, pl, op, el, so, ip, va, ov, oc) (nI P, nI C, xA, nI L, nI q, xS, xK, yD, ed, cl, po, sk, sa, sb, sc, ip, va, ov, oc, jl, pc, sv, bk, be) := dl_mk Q
  unfold wpX_addStmt
  refine br_f nf ?_
  unfold wpX_operandsFit
  refine br_f (by decide) (br_f (by decide) (br_f (by decide) (br_f (by decide) (br_f (by decide) (br_f (by decide) (br_f (by decide) (br_f (by decide) (br_f (by decide) (br_f (by decide) (br_t rfl (br_f (by decide) (?_))))))))))))
  unfold wpX_operandCount
  refine br_f (by decide) (br_f (by decide) (br_f (by decide) (br_f (by decide) (br_f (by decide) (br_f (by decide) (br_f (by decide) (br_f (by decide) (br_f (by decide) (br_f (by decide) (br_t rfl (dx_add0 L64 ?_)))))))))))
  unfold wpY_addStmt
  exact br_f (by decide) (br_f (by decide) (br_t lt (br_f (by decide) (br_f (by decide) (br_f (by decide) (br_f (by decide) (br_t (by decide) (br_f (by decide) (br_f (by decide) (br_f (by decide) (dy_add L64 ⟨rfl, dl_mkr (L := L + 1) ⟨⟨P2, P8⟩, ⟨by omega, C64⟩, Nat.zero_le _, hD, hA, hE, dl_Pw hp (Or.inr (Or.inr (Or.inr (Or.inr (Or.inr (Or.inl rfl)))))), dl_zn4 oc, fun z => absurd rfl z⟩⟩)))))))))))
theorem dl_a10 {kk P C L q : Nat} {a b c : Int32} (Q : dl_Q P C L q xS dA aA st jm oc ed sk sa sb sc) (hLC : L < C) : wpX_addStmt (fun r u' => wpY_addStmt (fun r' v' => r' = r ∧ i_Rel kk u' v') (nI P, nI C, xA, nI L, nI q, xS, xK, yD, ed, cl, po, sk, sa, sb, sc, ip, va, ov, oc, jl, pc, sv, bk, be) 10 a b c) (nI P, nI C, xA, nI L, xO, nI q, xS, xK, dA, aA, po, st, jm, pl, op, el, so, ip, va, ov, oc) 10 a b c := by
  obtain ⟨⟨P2, P8⟩, ⟨LC, C64⟩, qL, hD, hA, hE, hp, ho, hj⟩ := id Q
  have L64 : L < 64 := by omega
  have nf : ¬ nI C ≤ nI L := nI_ge hLC (by omega)
  have lt : nI L < nI C := nI_lt hLC (by omega)
  have J : i_Rel kk (nI P, nI C, xA, nI L, xO, nI q, xS, xK, dA, aA, po, st, jm, pl, op, el, so, ip, va, ov, oc) (nI P, nI C, xA, nI L, nI q, xS, xK, yD, ed, cl, po, sk, sa, sb, sc, ip, va, ov, oc, jl, pc, sv, bk, be) := dl_mk Q
  unfold wpX_addStmt
  refine br_f nf ?_
  unfold wpX_operandsFit
  refine br_f (by decide) (br_f (by decide) (br_f (by decide) (br_f (by decide) (br_f (by decide) (br_f (by decide) (br_f (by decide) (br_f (by decide) (br_f (by decide) (br_f (by decide) (br_f (by decide) (br_t rfl (br_f (by decide) (?_)))))))))))))
  unfold wpX_operandCount
  refine br_f (by decide) (br_f (by decide) (br_f (by decide) (br_f (by decide) (br_f (by decide) (br_f (by decide) (br_f (by decide) (br_f (by decide) (br_f (by decide) (br_f (by decide) (br_f (by decide) (br_t rfl (dx_add0 L64 ?_))))))))))))
  unfold wpY_addStmt
  exact br_f (by decide) (br_f (by decide) (br_t lt (br_f (by decide) (br_f (by decide) (br_f (by decide) (br_f (by decide) (br_t (by decide) (br_f (by decide) (br_f (by decide) (br_f (by decide) (dy_add L64 ⟨rfl, dl_mkr (L := L + 1) ⟨⟨P2, P8⟩, ⟨by omega, C64⟩, Nat.zero_le _, hD, hA, hE, dl_Pw hp (Or.inr (Or.inr (Or.inr (Or.inr (Or.inr (Or.inr (Or.inl rfl))))))), dl_zn4 oc, fun z => absurd rfl z⟩⟩)))))))))))
theorem dl_a11 {kk P C L q : Nat} {a b c : Int32} (Q : dl_Q P C L q xS dA aA st jm oc ed sk sa sb sc) (hLC : L < C) : wpX_addStmt (fun r u' => wpY_addStmt (fun r' v' => r' = r ∧ i_Rel kk u' v') (nI P, nI C, xA, nI L, nI q, xS, xK, yD, ed, cl, po, sk, sa, sb, sc, ip, va, ov, oc, jl, pc, sv, bk, be) 11 a b c) (nI P, nI C, xA, nI L, xO, nI q, xS, xK, dA, aA, po, st, jm, pl, op, el, so, ip, va, ov, oc) 11 a b c := by
  obtain ⟨⟨P2, P8⟩, ⟨LC, C64⟩, qL, hD, hA, hE, hp, ho, hj⟩ := id Q
  have L64 : L < 64 := by omega
  have nf : ¬ nI C ≤ nI L := nI_ge hLC (by omega)
  have lt : nI L < nI C := nI_lt hLC (by omega)
  have J : i_Rel kk (nI P, nI C, xA, nI L, xO, nI q, xS, xK, dA, aA, po, st, jm, pl, op, el, so, ip, va, ov, oc) (nI P, nI C, xA, nI L, nI q, xS, xK, yD, ed, cl, po, sk, sa, sb, sc, ip, va, ov, oc, jl, pc, sv, bk, be) := dl_mk Q
  rcases dl_rg a (n := 16) (by omega) with ba | ⟨t, ht, rfl⟩
  · skip
    unfold wpX_addStmt
    refine br_f nf ?_
    unfold wpX_operandsFit
    refine br_f (by decide) (br_f (by decide) (br_f (by decide) (br_f (by decide) (br_f (by decide) (br_f (by decide) (br_f (by decide) (br_f (by decide) (br_f (by decide) (br_f (by decide) (br_f (by decide) (br_f (by decide) (br_t rfl (dx_isVariable0 ba ⟨rfl, br_t rfl ?_⟩)))))))))))))
    unfold wpY_addStmt
    exact br_f (by decide) (br_f (by decide) (br_t lt (br_f (by decide) (br_f (by decide) (br_f (by decide) (br_f (by decide) (br_t (by decide) (br_f (by decide) (br_t rfl (dy_isVar0 ba (br_t rfl ⟨rfl, J⟩)))))))))))
  · skip
    unfold wpX_addStmt
    refine br_f nf ?_
    unfold wpX_operandsFit
    refine br_f (by decide) (br_f (by decide) (br_f (by decide) (br_f (by decide) (br_f (by decide) (br_f (by decide) (br_f (by decide) (br_f (by decide) (br_f (by decide) (br_f (by decide) (br_f (by decide) (br_f (by decide) (br_t rfl (dx_isVariable1 ht ⟨rfl, br_f (by decide) (?_)⟩)))))))))))))
    unfold wpX_operandCount
    refine br_f (by decide) (br_f (by decide) (br_f (by decide) (br_f (by decide) (br_f (by decide) (br_f (by decide) (br_f (by decide) (br_f (by decide) (br_f (by decide) (br_f (by decide) (br_f (by decide) (br_f (by decide) (br_t rfl (dx_add1 L64 ?_)))))))))))))
    unfold wpY_addStmt
    exact br_f (by decide) (br_f (by decide) (br_t lt (br_f (by decide) (br_f (by decide) (br_f (by decide) (br_f (by decide) (br_t (by decide) (br_f (by decide) (br_t rfl (dy_isVar1 ht (br_f (by decide) (dy_add L64 ⟨rfl, dl_mkr (L := L + 1) ⟨⟨P2, P8⟩, ⟨by omega, C64⟩, Nat.zero_le _, hD, hA, hE, dl_Pw hp (Or.inr (Or.inr (Or.inr (Or.inr (Or.inl ⟨Or.inr rfl, ⟨t, ht, rfl⟩⟩))))), dl_zn4 oc, fun z => absurd rfl z⟩⟩))))))))))))
theorem dl_a12 {kk P C L q : Nat} {a b c : Int32} (Q : dl_Q P C L q xS dA aA st jm oc ed sk sa sb sc) (hLC : L < C) : wpX_addStmt (fun r u' => wpY_addStmt (fun r' v' => r' = r ∧ i_Rel kk u' v') (nI P, nI C, xA, nI L, nI q, xS, xK, yD, ed, cl, po, sk, sa, sb, sc, ip, va, ov, oc, jl, pc, sv, bk, be) 12 a b c) (nI P, nI C, xA, nI L, xO, nI q, xS, xK, dA, aA, po, st, jm, pl, op, el, so, ip, va, ov, oc) 12 a b c := by
  obtain ⟨⟨P2, P8⟩, ⟨LC, C64⟩, qL, hD, hA, hE, hp, ho, hj⟩ := id Q
  have L64 : L < 64 := by omega
  have nf : ¬ nI C ≤ nI L := nI_ge hLC (by omega)
  have lt : nI L < nI C := nI_lt hLC (by omega)
  have J : i_Rel kk (nI P, nI C, xA, nI L, xO, nI q, xS, xK, dA, aA, po, st, jm, pl, op, el, so, ip, va, ov, oc) (nI P, nI C, xA, nI L, nI q, xS, xK, yD, ed, cl, po, sk, sa, sb, sc, ip, va, ov, oc, jl, pc, sv, bk, be) := dl_mk Q
  rcases dl_rg a (n := 4) (by omega) with ba | ⟨t, ht, rfl⟩
  · rcases ba with ba | ba
    · skip
      unfold wpX_addStmt
      refine br_f nf ?_
      unfold wpX_operandsFit
      refine br_f (by decide) (br_f (by decide) (br_f (by decide) (br_f (by decide) (br_f (by decide) (br_f (by decide) (br_f (by decide) (br_f (by decide) (br_f (by decide) (br_f (by decide) (br_f (by decide) (br_f (by decide) (br_f (by decide) (br_t rfl (dx_isChannel0 (Or.inl ba) (br_t rfl (br_t rfl ?_))))))))))))))))
      unfold wpY_addStmt
      exact br_f (by decide) (br_f (by decide) (br_t lt (br_f (by decide) (br_f (by decide) (br_f (by decide) (br_f (by decide) (br_t (by decide) (br_f (by decide) (br_f (by decide) (br_t rfl (br_t ba ⟨rfl, J⟩)))))))))))
    · skip
      unfold wpX_addStmt
      refine br_f nf ?_
      unfold wpX_operandsFit
      refine br_f (by decide) (br_f (by decide) (br_f (by decide) (br_f (by decide) (br_f (by decide) (br_f (by decide) (br_f (by decide) (br_f (by decide) (br_f (by decide) (br_f (by decide) (br_f (by decide) (br_f (by decide) (br_f (by decide) (br_t rfl (dx_isChannel0 (Or.inr ba) (br_t rfl (br_t rfl ?_))))))))))))))))
      unfold wpY_addStmt
      exact br_f (by decide) (br_f (by decide) (br_t lt (br_f (by decide) (br_f (by decide) (br_f (by decide) (br_f (by decide) (br_t (by decide) (br_f (by decide) (br_f (by decide) (br_t rfl (br_f ba.1 (br_t ba.2 ⟨rfl, J⟩))))))))))))
  have t0 : ¬ nI t < 0 := nI_pos (by omega)
  have t4 : ¬ (4 : Int32) ≤ nI t := nI_ge (b := 4) ht (by omega)
  rcases dl_rg b (n := 16) (by omega) with bb | ⟨s, hs, rfl⟩
  · skip
    unfold wpX_addStmt
    refine br_f nf ?_
    unfold wpX_operandsFit
    refine br_f (by decide) (br_f (by decide) (br_f (by decide) (br_f (by decide) (br_f (by decide) (br_f (by decide) (br_f (by decide) (br_f (by decide) (br_f (by decide) (br_f (by decide) (br_f (by decide) (br_f (by decide) (br_f (by decide) (br_t rfl (dx_isChannel1 ht (br_f (by decide) (dx_isVariable0 bb (br_t rfl (br_t rfl ?_))))))))))))))))))
    unfold wpY_addStmt
    exact br_f (by decide) (br_f (by decide) (br_t lt (br_f (by decide) (br_f (by decide) (br_f (by decide) (br_f (by decide) (br_t (by decide) (br_f (by decide) (br_f (by decide) (br_t rfl (br_f t0 (br_f t4 (dy_isVar0 bb (br_t rfl ⟨rfl, J⟩))))))))))))))
  unfold wpX_addStmt
  refine br_f nf ?_
  unfold wpX_operandsFit
  refine br_f (by decide) (br_f (by decide) (br_f (by decide) (br_f (by decide) (br_f (by decide) (br_f (by decide) (br_f (by decide) (br_f (by decide) (br_f (by decide) (br_f (by decide) (br_f (by decide) (br_f (by decide) (br_f (by decide) (br_t rfl (dx_isChannel1 ht (br_f (by decide) (dx_isVariable1 hs (br_f (by decide) (br_f (by decide) (?_)))))))))))))))))))
  unfold wpX_operandCount
  refine br_f (by decide) (br_f (by decide) (br_f (by decide) (br_f (by decide) (br_f (by decide) (br_f (by decide) (br_f (by decide) (br_f (by decide) (br_f (by decide) (br_f (by decide) (br_f (by decide) (br_f (by decide) (br_f (by decide) (br_t rfl (dx_add2 L64 ?_))))))))))))))
  unfold wpY_addStmt
  exact br_f (by decide) (br_f (by decide) (br_t lt (br_f (by decide) (br_f (by decide) (br_f (by decide) (br_f (by decide) (br_t (by decide) (br_f (by decide) (br_f (by decide) (br_t rfl (br_f t0 (br_f t4 (dy_isVar1 hs (br_f (by decide) (dy_add L64 ⟨rfl, dl_mkr (L := L + 1) ⟨⟨P2, P8⟩, ⟨by omega, C64⟩, Nat.zero_le _, hD, hA, hE, dl_Pw hp (Or.inr (Or.inr (Or.inr (Or.inr (Or.inr (Or.inr (Or.inr ⟨rfl, ⟨t, ht, rfl⟩, ⟨s, hs, rfl⟩⟩))))))), dl_zn4 oc, fun z => absurd rfl z⟩⟩)))))))))))))))
theorem dl_a13 {kk P C L q : Nat} {a b c : Int32} (Q : dl_Q P C L q xS dA aA st jm oc ed sk sa sb sc) (hLC : L < C) : wpX_addStmt (fun r u' => wpY_addStmt (fun r' v' => r' = r ∧ i_Rel kk u' v') (nI P, nI C, xA, nI L, nI q, xS, xK, yD, ed, cl, po, sk, sa, sb, sc, ip, va, ov, oc, jl, pc, sv, bk, be) 13 a b c) (nI P, nI C, xA, nI L, xO, nI q, xS, xK, dA, aA, po, st, jm, pl, op, el, so, ip, va, ov, oc) 13 a b c := by
  obtain ⟨⟨P2, P8⟩, ⟨LC, C64⟩, qL, hD, hA, hE, hp, ho, hj⟩ := id Q
  have L64 : L < 64 := by omega
  have nf : ¬ nI C ≤ nI L := nI_ge hLC (by omega)
  have lt : nI L < nI C := nI_lt hLC (by omega)
  have J : i_Rel kk (nI P, nI C, xA, nI L, xO, nI q, xS, xK, dA, aA, po, st, jm, pl, op, el, so, ip, va, ov, oc) (nI P, nI C, xA, nI L, nI q, xS, xK, yD, ed, cl, po, sk, sa, sb, sc, ip, va, ov, oc, jl, pc, sv, bk, be) := dl_mk Q
  rcases dl_rg a (n := 16) (by omega) with ba | ⟨t, ht, rfl⟩
  · skip
    unfold wpX_addStmt
    refine br_f nf ?_
    unfold wpX_operandsFit
    refine br_f (by decide) (br_f (by decide) (br_f (by decide) (br_f (by decide) (br_f (by decide) (br_f (by decide) (br_f (by decide) (br_f (by decide) (br_f (by decide) (br_f (by decide) (br_f (by decide) (br_f (by decide) (br_f (by decide) (br_f (by decide) (br_t rfl (dx_isVariable0 ba (br_t rfl (br_t rfl ?_)))))))))))))))))
    unfold wpY_addStmt
    exact br_f (by decide) (br_f (by decide) (br_t lt (br_f (by decide) (br_f (by decide) (br_t rfl (dy_isVar0 ba (br_t rfl ⟨rfl, J⟩)))))))
  rcases dl_rg b (n := 16) (by omega) with bb | ⟨s, hs, rfl⟩
  · skip
    unfold wpX_addStmt
    refine br_f nf ?_
    unfold wpX_operandsFit
    refine br_f (by decide) (br_f (by decide) (br_f (by decide) (br_f (by decide) (br_f (by decide) (br_f (by decide) (br_f (by decide) (br_f (by decide) (br_f (by decide) (br_f (by decide) (br_f (by decide) (br_f (by decide) (br_f (by decide) (br_f (by decide) (br_t rfl (dx_isVariable1 ht (br_f (by decide) (dx_isVariable0 bb (br_t rfl (br_t rfl ?_)))))))))))))))))))
    unfold wpY_addStmt
    exact br_f (by decide) (br_f (by decide) (br_t lt (br_f (by decide) (br_f (by decide) (br_t rfl (dy_isVar1 ht (br_f (by decide) (dy_isVar0 bb (br_t rfl ⟨rfl, J⟩)))))))))
  unfold wpX_addStmt
  refine br_f nf ?_
  unfold wpX_operandsFit
  refine br_f (by decide) (br_f (by decide) (br_f (by decide) (br_f (by decide) (br_f (by decide) (br_f (by decide) (br_f (by decide) (br_f (by decide) (br_f (by decide) (br_f (by decide) (br_f (by decide) (br_f (by decide) (br_f (by decide) (br_f (by decide) (br_t rfl (dx_isVariable1 ht (br_f (by decide) (dx_isVariable1 hs (br_f (by decide) (br_f (by decide) (?_))))))))))))))))))))
  unfold wpX_operandCount
  refine br_f (by decide) (br_f (by decide) (br_f (by decide) (br_f (by decide) (br_f (by decide) (br_f (by decide) (br_f (by decide) (br_f (by decide) (br_f (by decide) (br_f (by decide) (br_f (by decide) (br_f (by decide) (br_f (by decide) (br_f (by decide) (br_t rfl (dx_add2 L64 ?_)))))))))))))))
  unfold wpY_addStmt
  exact br_f (by decide) (br_f (by decide) (br_t lt (br_f (by decide) (br_f (by decide) (br_t rfl (dy_isVar1 ht (br_f (by decide) (dy_isVar1 hs (br_f (by decide) (dy_add L64 ⟨rfl, dl_mkr (L := L + 1) ⟨⟨P2, P8⟩, ⟨by omega, C64⟩, Nat.zero_le _, hD, hA, hE, dl_Pw hp (Or.inr (Or.inr (Or.inl ⟨rfl, ⟨t, ht, rfl⟩, ⟨s, hs, rfl⟩⟩))), dl_zn4 oc, fun z => absurd rfl z⟩⟩))))))))))
theorem dl_k14 {x : Int32} (b : x < 0 ∨ (¬ x < 0 ∧ nI 14 ≤ x)) : x < 1 ∨ (¬ x < 1 ∧ 13 < x) := by
  have e1 : (1 : Int32).toInt = 1 := by decide
  have e0 : (0 : Int32).toInt = 0 := by decide
  have e13 : (13 : Int32).toInt = 13 := by decide
  rcases b with b | b
  · rw [Int32.lt_iff_toInt_lt] at b
    exact Or.inl (by rw [Int32.lt_iff_toInt_lt]; omega)
  · have q := b.2
    rw [Int32.le_iff_toInt_le, nI_toInt (by omega)] at q
    exact Or.inr ⟨by rw [Int32.lt_iff_toInt_lt]; omega, by rw [Int32.lt_iff_toInt_lt]; omega⟩
theorem i_vc_addStmt {k : Nat} {u : SX} {v : SY} (I : i_Rel k u v) (hk : k + 5 ≤ 2562) (v1 : Int32) (v2 : Int32) (v3 : Int32) (v4 : Int32) : wpX_addStmt (fun r u' => wpY_addStmt (fun r' v' => r' = r ∧ i_Rel (k + 5) u' v') v v1 v2 v3 v4) u v1 v2 v3 v4 := by
  have J := I
  obtain ⟨xP, xC, xA, xL, xO, xQ, xS, xK, dA, aA, po, st, jm, pl, op, el, so, ip, va, ov, oc⟩ := u
  obtain ⟨yP, yC, yA, yL, yQ, yS, yK, yD, ed, cl, py, sk, sa, sb, sc, yi, yv, yo, yn, jl, pc, sv, bk, be⟩ := v
  obtain ⟨P, C, L, q, rfl, rfl, rfl, rfl, rfl, rfl, rfl, rfl, rfl, rfl, rfl, rfl, rfl, rfl, rfl, rfl, Q⟩ := I
  obtain ⟨⟨P2, P8⟩, ⟨LC, C64⟩, qL, hD, hA, hE, hp, ho, hj⟩ := id Q
  rcases Nat.lt_or_ge L C with hLC | hLC
  · have nf : ¬ nI C ≤ nI L := nI_ge hLC (by omega)
    have bad : (v1 < 1 ∨ (¬ v1 < 1 ∧ 13 < v1)) → wpX_addStmt (fun r u' => wpY_addStmt (fun r' v' => r' = r ∧ i_Rel (k + 5) u' v') (nI P, nI C, xA, nI L, nI q, xS, xK, yD, ed, cl, po, sk, sa, sb, sc, ip, va, ov, oc, jl, pc, sv, bk, be) v1 v2 v3 v4) (nI P, nI C, xA, nI L, xO, nI q, xS, xK, dA, aA, po, st, jm, pl, op, el, so, ip, va, ov, oc) v1 v2 v3 v4 := by
      intro b
      unfold wpX_addStmt
      refine br_f nf ?_
      unfold wpX_operandsFit
      rcases b with b | b
      · refine br_t b (br_t rfl ?_)
        unfold wpY_addStmt
        exact br_t b ⟨rfl, J⟩
      · refine br_f b.1 (br_t b.2 (br_t rfl ?_))
        unfold wpY_addStmt
        exact br_f b.1 (br_t b.2 ⟨rfl, J⟩)
    rcases dl_rg v1 (n := 14) (by omega) with b | ⟨j, hj', rfl⟩
    · exact bad (dl_k14 b)
    · have ej : j = 0 ∨ j = 1 ∨ j = 2 ∨ j = 3 ∨ j = 4 ∨ j = 5 ∨ j = 6 ∨ j = 7 ∨ j = 8 ∨ j = 9 ∨ j = 10 ∨ j = 11 ∨ j = 12 ∨ j = 13 := by omega
      rcases ej with e | e | e | e | e | e | e | e | e | e | e | e | e | e <;> subst e
      · exact bad (Or.inl (by decide))
      · exact dl_a1 Q hLC
      · exact dl_a2 Q hLC
      · exact dl_a3 Q hLC
      · exact dl_a4 Q hLC
      · exact dl_a5 Q hLC
      · exact dl_a6 Q hLC
      · exact dl_a7 Q hLC
      · exact dl_a8 Q hLC
      · exact dl_a9 Q hLC
      · exact dl_a10 Q hLC
      · exact dl_a11 Q hLC
      · exact dl_a12 Q hLC
      · exact dl_a13 Q hLC
  · have fl : nI C ≤ nI L := nI_le hLC (by omega)
    have nlt : ¬ nI L < nI C := nI_nlt hLC (by omega)
    unfold wpX_addStmt
    refine br_t fl ?_
    unfold wpY_addStmt
    exact br_c (fun _ => ⟨rfl, J⟩) (fun _ => br_c (fun _ => ⟨rfl, J⟩) (fun _ => br_f nlt ⟨rfl, J⟩))
end
