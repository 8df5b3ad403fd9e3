/-! p18: steps, runs, inputs, readers and channels of the component -/
section
variable {xP xC xA xL xO xQ xS xK : Int32} {dA aA po st jm pl op el so ip va ov oc : Nat → Int32}
def dp_Tg (S : Nat → Int32) (L : Nat) : Nat → Int32 := fun q => dl_tg (fun i => S (i * 4)) L q
theorem dp_Tg_r {S : Nat → Int32} {L q : Nat} (hq : q < L) (hL : L ≤ 64) : ∃ r, r ≤ L ∧ dp_Tg S L q = nI r := dl_tg_r (fun i => S (i * 4)) hq (by omega)
theorem dp_h1 {post : St2 → Prop} {L q : Nat} {S : Nat → Int32} (hL : L ≤ 64) (hq : q < L) (hT : dp_T L st S) (hj : ∀ q, q < L → ds_ct S q → jm q = dp_Tg S L q) (ho : ds_ok (q, va, ov, oc)) (z : ∀ (q' : Nat) (va' ov' oc' : Nat → Int32), ds_step S (dp_Tg S L) (q, va, ov, oc) = (q', va', ov', oc') → post (xP, xC, xA, nI L, xO, nI q', xS, xK, dA, aA, po, st, jm, pl, op, el, so, ip, va', ov', oc')) (k : S (q * 4) = 1) (va' : dl_v (S (q * 4 + 1))) : wpX_step post (xP, xC, xA, nI L, xO, nI q, xS, xK, dA, aA, po, st, jm, pl, op, el, so, ip, va, ov, oc) := by
  have p0 := hT.1 (q * 4) (by omega)
  have p1 := hT.1 (q * 4 + 1) (by omega)
  have p2 := hT.1 (q * 4 + 2) (by omega)
  have p3 := hT.1 (q * 4 + 3) (by omega)
  obtain ⟨v0, c0⟩ := dl_s0 (show q < 64 by omega)
  obtain ⟨v1, c1⟩ := dl_s1 (show q < 64 by omega)
  obtain ⟨v2, c2⟩ := dl_s2 (show q < 64 by omega)
  obtain ⟨v3, c3⟩ := dl_s3 (show q < 64 by omega)
  have vq : vp_in (nI q) 64 := vp_in_nI (by omega) (by omega)
  have cq := dl_c (show q < 2 ^ 31 by omega)
  obtain ⟨t, ht, ea⟩ := va'
  have ct := dl_c (show t < 2 ^ 31 by omega)
  have ia : ds_a S q = t := by
    unfold ds_a
    rw [ea, ct]
  have nb : ¬ ds_br (S (q * 4)) := by
    unfold ds_br
    rw [k]
    decide
  have nj : ¬ ds_jp (S (q * 4)) := by
    unfold ds_jp
    rw [k]
    decide
  have n12 : ¬ S (q * 4) = 12 := by
    rw [k]
    decide
  have ev : ds_val S va q = S (q * 4 + 2) := by
    unfold ds_val
    rw [if_pos k]
  have e : ds_step S (dp_Tg S L) (q, va, ov, oc) = (q + 1, upd va t (S (q * 4 + 2)), ov, oc) := by
    rw [ds_step_w nb nj n12]
    show (q + 1, upd va (ds_a S q) (ds_val S va q), ov, oc) = _
    rw [ia, ev]
  have zz := z _ _ _ _ e
  unfold wpX_step
  exact nm_r (dl_m4 q) ⟨v0, nm_r (e' := 1) (by rw [c0]; exact p0.trans k) ⟨v1, nm_r (e' := nI t) (by rw [c1]; exact p1.trans ea) ⟨v2, nm_e ⟨v3, nm_e (br_t (by decide) (br_f (by decide) (br_f (by decide) (br_t rfl ⟨vp_in_nI ht (by omega), nm_r (e' := upd va t (S (q * 4 + 2))) (by rw [ct, c2, p2]) (nm_r (nI_1 q) zz)⟩))))⟩⟩⟩⟩
theorem dp_h2 {post : St2 → Prop} {L q : Nat} {S : Nat → Int32} (hL : L ≤ 64) (hq : q < L) (hT : dp_T L st S) (hj : ∀ q, q < L → ds_ct S q → jm q = dp_Tg S L q) (ho : ds_ok (q, va, ov, oc)) (z : ∀ (q' : Nat) (va' ov' oc' : Nat → Int32), ds_step S (dp_Tg S L) (q, va, ov, oc) = (q', va', ov', oc') → post (xP, xC, xA, nI L, xO, nI q', xS, xK, dA, aA, po, st, jm, pl, op, el, so, ip, va', ov', oc')) (k : S (q * 4) = 2) (va' : dl_v (S (q * 4 + 1))) (vb' : dl_v (S (q * 4 + 2))) : wpX_step post (xP, xC, xA, nI L, xO, nI q, xS, xK, dA, aA, po, st, jm, pl, op, el, so, ip, va, ov, oc) := by
  have p0 := hT.1 (q * 4) (by omega)
  have p1 := hT.1 (q * 4 + 1) (by omega)
  have p2 := hT.1 (q * 4 + 2) (by omega)
  have p3 := hT.1 (q * 4 + 3) (by omega)
  obtain ⟨v0, c0⟩ := dl_s0 (show q < 64 by omega)
  obtain ⟨v1, c1⟩ := dl_s1 (show q < 64 by omega)
  obtain ⟨v2, c2⟩ := dl_s2 (show q < 64 by omega)
  obtain ⟨v3, c3⟩ := dl_s3 (show q < 64 by omega)
  have vq : vp_in (nI q) 64 := vp_in_nI (by omega) (by omega)
  have cq := dl_c (show q < 2 ^ 31 by omega)
  obtain ⟨t, ht, ea⟩ := va'
  have ct := dl_c (show t < 2 ^ 31 by omega)
  have ia : ds_a S q = t := by
    unfold ds_a
    rw [ea, ct]
  obtain ⟨b, hb, eb⟩ := vb'
  have cb := dl_c (show b < 2 ^ 31 by omega)
  have ib : ds_b S q = b := by
    unfold ds_b
    rw [eb, cb]
  have nb : ¬ ds_br (S (q * 4)) := by
    unfold ds_br
    rw [k]
    decide
  have nj : ¬ ds_jp (S (q * 4)) := by
    unfold ds_jp
    rw [k]
    decide
  have n12 : ¬ S (q * 4) = 12 := by
    rw [k]
    decide
  have ev : ds_val S va q = va b := by
    unfold ds_val
    rw [if_neg (by rw [k]; decide), if_neg (by rw [k]; decide), if_neg (by rw [k]; decide), if_neg (by rw [k]; decide), if_neg (by rw [k]; decide), if_neg (by rw [k]; decide), ib]
  have e : ds_step S (dp_Tg S L) (q, va, ov, oc) = (q + 1, upd va t (va b), ov, oc) := by
    rw [ds_step_w nb nj n12]
    show (q + 1, upd va (ds_a S q) (ds_val S va q), ov, oc) = _
    rw [ia, ev]
  have zz := z _ _ _ _ e
  unfold wpX_step
  exact nm_r (dl_m4 q) ⟨v0, nm_r (e' := 2) (by rw [c0]; exact p0.trans k) ⟨v1, nm_r (e' := nI t) (by rw [c1]; exact p1.trans ea) ⟨v2, nm_r (e' := nI b) (by rw [c2]; exact p2.trans eb) ⟨v3, nm_e (br_t (by decide) (br_f (by decide) (br_f (by decide) (br_f (by decide) (br_t rfl ⟨vp_in_nI hb (by omega), ⟨vp_in_nI ht (by omega), nm_r (e' := upd va t (va b)) (by rw [ct, cb]) (nm_r (nI_1 q) zz)⟩⟩)))))⟩⟩⟩⟩
theorem dp_h13 {post : St2 → Prop} {L q : Nat} {S : Nat → Int32} (hL : L ≤ 64) (hq : q < L) (hT : dp_T L st S) (hj : ∀ q, q < L → ds_ct S q → jm q = dp_Tg S L q) (ho : ds_ok (q, va, ov, oc)) (z : ∀ (q' : Nat) (va' ov' oc' : Nat → Int32), ds_step S (dp_Tg S L) (q, va, ov, oc) = (q', va', ov', oc') → post (xP, xC, xA, nI L, xO, nI q', xS, xK, dA, aA, po, st, jm, pl, op, el, so, ip, va', ov', oc')) (k : S (q * 4) = 13) (va' : dl_v (S (q * 4 + 1))) (vb' : dl_v (S (q * 4 + 2))) : wpX_step post (xP, xC, xA, nI L, xO, nI q, xS, xK, dA, aA, po, st, jm, pl, op, el, so, ip, va, ov, oc) := by
  have p0 := hT.1 (q * 4) (by omega)
  have p1 := hT.1 (q * 4 + 1) (by omega)
  have p2 := hT.1 (q * 4 + 2) (by omega)
  have p3 := hT.1 (q * 4 + 3) (by omega)
  obtain ⟨v0, c0⟩ := dl_s0 (show q < 64 by omega)
  obtain ⟨v1, c1⟩ := dl_s1 (show q < 64 by omega)
  obtain ⟨v2, c2⟩ := dl_s2 (show q < 64 by omega)
  obtain ⟨v3, c3⟩ := dl_s3 (show q < 64 by omega)
  have vq : vp_in (nI q) 64 := vp_in_nI (by omega) (by omega)
  have cq := dl_c (show q < 2 ^ 31 by omega)
  obtain ⟨t, ht, ea⟩ := va'
  have ct := dl_c (show t < 2 ^ 31 by omega)
  have ia : ds_a S q = t := by
    unfold ds_a
    rw [ea, ct]
  obtain ⟨b, hb, eb⟩ := vb'
  have cb := dl_c (show b < 2 ^ 31 by omega)
  have ib : ds_b S q = b := by
    unfold ds_b
    rw [eb, cb]
  have nb : ¬ ds_br (S (q * 4)) := by
    unfold ds_br
    rw [k]
    decide
  have nj : ¬ ds_jp (S (q * 4)) := by
    unfold ds_jp
    rw [k]
    decide
  have n12 : ¬ S (q * 4) = 12 := by
    rw [k]
    decide
  have ev : ds_val S va q = va b := by
    unfold ds_val
    rw [if_neg (by rw [k]; decide), if_neg (by rw [k]; decide), if_neg (by rw [k]; decide), if_neg (by rw [k]; decide), if_neg (by rw [k]; decide), if_neg (by rw [k]; decide), ib]
  have e : ds_step S (dp_Tg S L) (q, va, ov, oc) = (q + 1, upd va t (va b), ov, oc) := by
    rw [ds_step_w nb nj n12]
    show (q + 1, upd va (ds_a S q) (ds_val S va q), ov, oc) = _
    rw [ia, ev]
  have zz := z _ _ _ _ e
  unfold wpX_step
  exact nm_r (dl_m4 q) ⟨v0, nm_r (e' := 13) (by rw [c0]; exact p0.trans k) ⟨v1, nm_r (e' := nI t) (by rw [c1]; exact p1.trans ea) ⟨v2, nm_r (e' := nI b) (by rw [c2]; exact p2.trans eb) ⟨v3, nm_e (br_f (by decide) (br_t (by decide) (br_f (by decide) (br_t (by decide) ⟨vp_in_nI hb (by omega), ⟨vp_in_nI ht (by omega), nm_r (e' := upd va t (va b)) (by rw [ct, cb]) (nm_r (nI_1 q) zz)⟩⟩))))⟩⟩⟩⟩
theorem dp_h3 {post : St2 → Prop} {L q : Nat} {S : Nat → Int32} (hL : L ≤ 64) (hq : q < L) (hT : dp_T L st S) (hj : ∀ q, q < L → ds_ct S q → jm q = dp_Tg S L q) (ho : ds_ok (q, va, ov, oc)) (z : ∀ (q' : Nat) (va' ov' oc' : Nat → Int32), ds_step S (dp_Tg S L) (q, va, ov, oc) = (q', va', ov', oc') → post (xP, xC, xA, nI L, xO, nI q', xS, xK, dA, aA, po, st, jm, pl, op, el, so, ip, va', ov', oc')) (k : S (q * 4) = 3) (va' : dl_v (S (q * 4 + 1))) (vb' : dl_v (S (q * 4 + 2))) (vc' : dl_v (S (q * 4 + 3))) : wpX_step post (xP, xC, xA, nI L, xO, nI q, xS, xK, dA, aA, po, st, jm, pl, op, el, so, ip, va, ov, oc) := by
  have p0 := hT.1 (q * 4) (by omega)
  have p1 := hT.1 (q * 4 + 1) (by omega)
  have p2 := hT.1 (q * 4 + 2) (by omega)
  have p3 := hT.1 (q * 4 + 3) (by omega)
  obtain ⟨v0, c0⟩ := dl_s0 (show q < 64 by omega)
  obtain ⟨v1, c1⟩ := dl_s1 (show q < 64 by omega)
  obtain ⟨v2, c2⟩ := dl_s2 (show q < 64 by omega)
  obtain ⟨v3, c3⟩ := dl_s3 (show q < 64 by omega)
  have vq : vp_in (nI q) 64 := vp_in_nI (by omega) (by omega)
  have cq := dl_c (show q < 2 ^ 31 by omega)
  obtain ⟨t, ht, ea⟩ := va'
  have ct := dl_c (show t < 2 ^ 31 by omega)
  have ia : ds_a S q = t := by
    unfold ds_a
    rw [ea, ct]
  obtain ⟨b, hb, eb⟩ := vb'
  have cb := dl_c (show b < 2 ^ 31 by omega)
  have ib : ds_b S q = b := by
    unfold ds_b
    rw [eb, cb]
  obtain ⟨c, hc2, ec⟩ := vc'
  have cc := dl_c (show c < 2 ^ 31 by omega)
  have ic : ds_c S q = c := by
    unfold ds_c
    rw [ec, cc]
  have nb : ¬ ds_br (S (q * 4)) := by
    unfold ds_br
    rw [k]
    decide
  have nj : ¬ ds_jp (S (q * 4)) := by
    unfold ds_jp
    rw [k]
    decide
  have n12 : ¬ S (q * 4) = 12 := by
    rw [k]
    decide
  have ev : ds_val S va q = va b + va c := by
    unfold ds_val
    rw [if_neg (by rw [k]; decide), if_pos k, ib, ic]
  have e : ds_step S (dp_Tg S L) (q, va, ov, oc) = (q + 1, upd va t (va b + va c), ov, oc) := by
    rw [ds_step_w nb nj n12]
    show (q + 1, upd va (ds_a S q) (ds_val S va q), ov, oc) = _
    rw [ia, ev]
  have zz := z _ _ _ _ e
  unfold wpX_step
  exact nm_r (dl_m4 q) ⟨v0, nm_r (e' := 3) (by rw [c0]; exact p0.trans k) ⟨v1, nm_r (e' := nI t) (by rw [c1]; exact p1.trans ea) ⟨v2, nm_r (e' := nI b) (by rw [c2]; exact p2.trans eb) ⟨v3, nm_r (e' := nI c) (by rw [c3]; exact p3.trans ec) (br_t (by decide) (br_f (by decide) (br_f (by decide) (br_f (by decide) (br_f (by decide) (br_t rfl ⟨vp_in_nI hb (by omega), vp_in_nI hc2 (by omega), ⟨vp_in_nI ht (by omega), nm_r (e' := upd va t (va b + va c)) (by rw [ct, cb, cc]) (nm_r (nI_1 q) zz)⟩⟩))))))⟩⟩⟩⟩
theorem dp_h4 {post : St2 → Prop} {L q : Nat} {S : Nat → Int32} (hL : L ≤ 64) (hq : q < L) (hT : dp_T L st S) (hj : ∀ q, q < L → ds_ct S q → jm q = dp_Tg S L q) (ho : ds_ok (q, va, ov, oc)) (z : ∀ (q' : Nat) (va' ov' oc' : Nat → Int32), ds_step S (dp_Tg S L) (q, va, ov, oc) = (q', va', ov', oc') → post (xP, xC, xA, nI L, xO, nI q', xS, xK, dA, aA, po, st, jm, pl, op, el, so, ip, va', ov', oc')) (k : S (q * 4) = 4) (va' : dl_v (S (q * 4 + 1))) (vb' : dl_v (S (q * 4 + 2))) (vc' : dl_v (S (q * 4 + 3))) : wpX_step post (xP, xC, xA, nI L, xO, nI q, xS, xK, dA, aA, po, st, jm, pl, op, el, so, ip, va, ov, oc) := by
  have p0 := hT.1 (q * 4) (by omega)
  have p1 := hT.1 (q * 4 + 1) (by omega)
  have p2 := hT.1 (q * 4 + 2) (by omega)
  have p3 := hT.1 (q * 4 + 3) (by omega)
  obtain ⟨v0, c0⟩ := dl_s0 (show q < 64 by omega)
  obtain ⟨v1, c1⟩ := dl_s1 (show q < 64 by omega)
  obtain ⟨v2, c2⟩ := dl_s2 (show q < 64 by omega)
  obtain ⟨v3, c3⟩ := dl_s3 (show q < 64 by omega)
  have vq : vp_in (nI q) 64 := vp_in_nI (by omega) (by omega)
  have cq := dl_c (show q < 2 ^ 31 by omega)
  obtain ⟨t, ht, ea⟩ := va'
  have ct := dl_c (show t < 2 ^ 31 by omega)
  have ia : ds_a S q = t := by
    unfold ds_a
    rw [ea, ct]
  obtain ⟨b, hb, eb⟩ := vb'
  have cb := dl_c (show b < 2 ^ 31 by omega)
  have ib : ds_b S q = b := by
    unfold ds_b
    rw [eb, cb]
  obtain ⟨c, hc2, ec⟩ := vc'
  have cc := dl_c (show c < 2 ^ 31 by omega)
  have ic : ds_c S q = c := by
    unfold ds_c
    rw [ec, cc]
  have nb : ¬ ds_br (S (q * 4)) := by
    unfold ds_br
    rw [k]
    decide
  have nj : ¬ ds_jp (S (q * 4)) := by
    unfold ds_jp
    rw [k]
    decide
  have n12 : ¬ S (q * 4) = 12 := by
    rw [k]
    decide
  have ev : ds_val S va q = va b - va c := by
    unfold ds_val
    rw [if_neg (by rw [k]; decide), if_neg (by rw [k]; decide), if_pos k, ib, ic]
  have e : ds_step S (dp_Tg S L) (q, va, ov, oc) = (q + 1, upd va t (va b - va c), ov, oc) := by
    rw [ds_step_w nb nj n12]
    show (q + 1, upd va (ds_a S q) (ds_val S va q), ov, oc) = _
    rw [ia, ev]
  have zz := z _ _ _ _ e
  unfold wpX_step
  exact nm_r (dl_m4 q) ⟨v0, nm_r (e' := 4) (by rw [c0]; exact p0.trans k) ⟨v1, nm_r (e' := nI t) (by rw [c1]; exact p1.trans ea) ⟨v2, nm_r (e' := nI b) (by rw [c2]; exact p2.trans eb) ⟨v3, nm_r (e' := nI c) (by rw [c3]; exact p3.trans ec) (br_t (by decide) (br_f (by decide) (br_f (by decide) (br_f (by decide) (br_f (by decide) (br_f (by decide) (br_t rfl ⟨vp_in_nI hb (by omega), vp_in_nI hc2 (by omega), ⟨vp_in_nI ht (by omega), nm_r (e' := upd va t (va b - va c)) (by rw [ct, cb, cc]) (nm_r (nI_1 q) zz)⟩⟩)))))))⟩⟩⟩⟩
theorem dp_h5 {post : St2 → Prop} {L q : Nat} {S : Nat → Int32} (hL : L ≤ 64) (hq : q < L) (hT : dp_T L st S) (hj : ∀ q, q < L → ds_ct S q → jm q = dp_Tg S L q) (ho : ds_ok (q, va, ov, oc)) (z : ∀ (q' : Nat) (va' ov' oc' : Nat → Int32), ds_step S (dp_Tg S L) (q, va, ov, oc) = (q', va', ov', oc') → post (xP, xC, xA, nI L, xO, nI q', xS, xK, dA, aA, po, st, jm, pl, op, el, so, ip, va', ov', oc')) (k : S (q * 4) = 5) (va' : dl_v (S (q * 4 + 1))) (vb' : dl_v (S (q * 4 + 2))) (vc' : dl_v (S (q * 4 + 3))) : wpX_step post (xP, xC, xA, nI L, xO, nI q, xS, xK, dA, aA, po, st, jm, pl, op, el, so, ip, va, ov, oc) := by
  have p0 := hT.1 (q * 4) (by omega)
  have p1 := hT.1 (q * 4 + 1) (by omega)
  have p2 := hT.1 (q * 4 + 2) (by omega)
  have p3 := hT.1 (q * 4 + 3) (by omega)
  obtain ⟨v0, c0⟩ := dl_s0 (show q < 64 by omega)
  obtain ⟨v1, c1⟩ := dl_s1 (show q < 64 by omega)
  obtain ⟨v2, c2⟩ := dl_s2 (show q < 64 by omega)
  obtain ⟨v3, c3⟩ := dl_s3 (show q < 64 by omega)
  have vq : vp_in (nI q) 64 := vp_in_nI (by omega) (by omega)
  have cq := dl_c (show q < 2 ^ 31 by omega)
  obtain ⟨t, ht, ea⟩ := va'
  have ct := dl_c (show t < 2 ^ 31 by omega)
  have ia : ds_a S q = t := by
    unfold ds_a
    rw [ea, ct]
  obtain ⟨b, hb, eb⟩ := vb'
  have cb := dl_c (show b < 2 ^ 31 by omega)
  have ib : ds_b S q = b := by
    unfold ds_b
    rw [eb, cb]
  obtain ⟨c, hc2, ec⟩ := vc'
  have cc := dl_c (show c < 2 ^ 31 by omega)
  have ic : ds_c S q = c := by
    unfold ds_c
    rw [ec, cc]
  have nb : ¬ ds_br (S (q * 4)) := by
    unfold ds_br
    rw [k]
    decide
  have nj : ¬ ds_jp (S (q * 4)) := by
    unfold ds_jp
    rw [k]
    decide
  have n12 : ¬ S (q * 4) = 12 := by
    rw [k]
    decide
  have ev : ds_val S va q = va b * va c := by
    unfold ds_val
    rw [if_neg (by rw [k]; decide), if_neg (by rw [k]; decide), if_neg (by rw [k]; decide), if_pos k, ib, ic]
  have e : ds_step S (dp_Tg S L) (q, va, ov, oc) = (q + 1, upd va t (va b * va c), ov, oc) := by
    rw [ds_step_w nb nj n12]
    show (q + 1, upd va (ds_a S q) (ds_val S va q), ov, oc) = _
    rw [ia, ev]
  have zz := z _ _ _ _ e
  unfold wpX_step
  exact nm_r (dl_m4 q) ⟨v0, nm_r (e' := 5) (by rw [c0]; exact p0.trans k) ⟨v1, nm_r (e' := nI t) (by rw [c1]; exact p1.trans ea) ⟨v2, nm_r (e' := nI b) (by rw [c2]; exact p2.trans eb) ⟨v3, nm_r (e' := nI c) (by rw [c3]; exact p3.trans ec) (br_t (by decide) (br_f (by decide) (br_f (by decide) (br_f (by decide) (br_f (by decide) (br_f (by decide) (br_f (by decide) (br_t rfl ⟨vp_in_nI hb (by omega), vp_in_nI hc2 (by omega), ⟨vp_in_nI ht (by omega), nm_r (e' := upd va t (va b * va c)) (by rw [ct, cb, cc]) (nm_r (nI_1 q) zz)⟩⟩))))))))⟩⟩⟩⟩
theorem dp_h6 {post : St2 → Prop} {L q : Nat} {S : Nat → Int32} (hL : L ≤ 64) (hq : q < L) (hT : dp_T L st S) (hj : ∀ q, q < L → ds_ct S q → jm q = dp_Tg S L q) (ho : ds_ok (q, va, ov, oc)) (z : ∀ (q' : Nat) (va' ov' oc' : Nat → Int32), ds_step S (dp_Tg S L) (q, va, ov, oc) = (q', va', ov', oc') → post (xP, xC, xA, nI L, xO, nI q', xS, xK, dA, aA, po, st, jm, pl, op, el, so, ip, va', ov', oc')) (k : S (q * 4) = 6) (va' : dl_v (S (q * 4 + 1))) (vb' : dl_v (S (q * 4 + 2))) (vc' : dl_v (S (q * 4 + 3))) : wpX_step post (xP, xC, xA, nI L, xO, nI q, xS, xK, dA, aA, po, st, jm, pl, op, el, so, ip, va, ov, oc) := by
  have p0 := hT.1 (q * 4) (by omega)
  have p1 := hT.1 (q * 4 + 1) (by omega)
  have p2 := hT.1 (q * 4 + 2) (by omega)
  have p3 := hT.1 (q * 4 + 3) (by omega)
  obtain ⟨v0, c0⟩ := dl_s0 (show q < 64 by omega)
  obtain ⟨v1, c1⟩ := dl_s1 (show q < 64 by omega)
  obtain ⟨v2, c2⟩ := dl_s2 (show q < 64 by omega)
  obtain ⟨v3, c3⟩ := dl_s3 (show q < 64 by omega)
  have vq : vp_in (nI q) 64 := vp_in_nI (by omega) (by omega)
  have cq := dl_c (show q < 2 ^ 31 by omega)
  obtain ⟨t, ht, ea⟩ := va'
  have ct := dl_c (show t < 2 ^ 31 by omega)
  have ia : ds_a S q = t := by
    unfold ds_a
    rw [ea, ct]
  obtain ⟨b, hb, eb⟩ := vb'
  have cb := dl_c (show b < 2 ^ 31 by omega)
  have ib : ds_b S q = b := by
    unfold ds_b
    rw [eb, cb]
  obtain ⟨c, hc2, ec⟩ := vc'
  have cc := dl_c (show c < 2 ^ 31 by omega)
  have ic : ds_c S q = c := by
    unfold ds_c
    rw [ec, cc]
  have nb : ¬ ds_br (S (q * 4)) := by
    unfold ds_br
    rw [k]
    decide
  have nj : ¬ ds_jp (S (q * 4)) := by
    unfold ds_jp
    rw [k]
    decide
  have n12 : ¬ S (q * 4) = 12 := by
    rw [k]
    decide
  by_cases g : va c ≤ va b
  · have ev : ds_val S va q = 0 := by
      unfold ds_val
      rw [if_neg (by rw [k]; decide), if_neg (by rw [k]; decide), if_neg (by rw [k]; decide), if_neg (by rw [k]; decide), if_pos k, ib, ic, if_neg (Int32.not_lt.mpr g)]
    have e : ds_step S (dp_Tg S L) (q, va, ov, oc) = (q + 1, upd va t (0), ov, oc) := by
      rw [ds_step_w nb nj n12]
      show (q + 1, upd va (ds_a S q) (ds_val S va q), ov, oc) = _
      rw [ia, ev]
    have zz := z _ _ _ _ e
    unfold wpX_step
    refine nm_r (dl_m4 q) ⟨v0, nm_r (e' := 6) (by rw [c0]; exact p0.trans k) ⟨v1, nm_r (e' := nI t) (by rw [c1]; exact p1.trans ea) ⟨v2, nm_r (e' := nI b) (by rw [c2]; exact p2.trans eb) ⟨v3, nm_r (e' := nI c) (by rw [c3]; exact p3.trans ec) (br_t (by decide) (br_f (by decide) (br_f (by decide) (br_f (by decide) (br_f (by decide) (br_f (by decide) (br_f (by decide) (br_f (by decide) (br_t rfl ⟨vp_in_nI hb (by omega), vp_in_nI hc2 (by omega), ?_⟩)))))))))⟩⟩⟩⟩
    rw [cb, cc]
    exact br_t g ⟨vp_in_nI ht (by omega), nm_r (e' := upd va t 0) (by rw [ct]) (nm_r (nI_1 q) zz)⟩
  · have ev : ds_val S va q = 1 := by
      unfold ds_val
      rw [if_neg (by rw [k]; decide), if_neg (by rw [k]; decide), if_neg (by rw [k]; decide), if_neg (by rw [k]; decide), if_pos k, ib, ic, if_pos (Int32.not_le.mp g)]
    have e : ds_step S (dp_Tg S L) (q, va, ov, oc) = (q + 1, upd va t (1), ov, oc) := by
      rw [ds_step_w nb nj n12]
      show (q + 1, upd va (ds_a S q) (ds_val S va q), ov, oc) = _
      rw [ia, ev]
    have zz := z _ _ _ _ e
    unfold wpX_step
    refine nm_r (dl_m4 q) ⟨v0, nm_r (e' := 6) (by rw [c0]; exact p0.trans k) ⟨v1, nm_r (e' := nI t) (by rw [c1]; exact p1.trans ea) ⟨v2, nm_r (e' := nI b) (by rw [c2]; exact p2.trans eb) ⟨v3, nm_r (e' := nI c) (by rw [c3]; exact p3.trans ec) (br_t (by decide) (br_f (by decide) (br_f (by decide) (br_f (by decide) (br_f (by decide) (br_f (by decide) (br_f (by decide) (br_f (by decide) (br_t rfl ⟨vp_in_nI hb (by omega), vp_in_nI hc2 (by omega), ?_⟩)))))))))⟩⟩⟩⟩
    rw [cb, cc]
    exact br_f g ⟨vp_in_nI ht (by omega), nm_r (e' := upd va t 1) (by rw [ct]) (nm_r (nI_1 q) zz)⟩
theorem dp_h7 {post : St2 → Prop} {L q : Nat} {S : Nat → Int32} (hL : L ≤ 64) (hq : q < L) (hT : dp_T L st S) (hj : ∀ q, q < L → ds_ct S q → jm q = dp_Tg S L q) (ho : ds_ok (q, va, ov, oc)) (z : ∀ (q' : Nat) (va' ov' oc' : Nat → Int32), ds_step S (dp_Tg S L) (q, va, ov, oc) = (q', va', ov', oc') → post (xP, xC, xA, nI L, xO, nI q', xS, xK, dA, aA, po, st, jm, pl, op, el, so, ip, va', ov', oc')) (k : S (q * 4) = 7) (va' : dl_v (S (q * 4 + 1))) (vb' : dl_v (S (q * 4 + 2))) (vc' : dl_v (S (q * 4 + 3))) : wpX_step post (xP, xC, xA, nI L, xO, nI q, xS, xK, dA, aA, po, st, jm, pl, op, el, so, ip, va, ov, oc) := by
  have p0 := hT.1 (q * 4) (by omega)
  have p1 := hT.1 (q * 4 + 1) (by omega)
  have p2 := hT.1 (q * 4 + 2) (by omega)
  have p3 := hT.1 (q * 4 + 3) (by omega)
  obtain ⟨v0, c0⟩ := dl_s0 (show q < 64 by omega)
  obtain ⟨v1, c1⟩ := dl_s1 (show q < 64 by omega)
  obtain ⟨v2, c2⟩ := dl_s2 (show q < 64 by omega)
  obtain ⟨v3, c3⟩ := dl_s3 (show q < 64 by omega)
  have vq : vp_in (nI q) 64 := vp_in_nI (by omega) (by omega)
  have cq := dl_c (show q < 2 ^ 31 by omega)
  obtain ⟨t, ht, ea⟩ := va'
  have ct := dl_c (show t < 2 ^ 31 by omega)
  have ia : ds_a S q = t := by
    unfold ds_a
    rw [ea, ct]
  obtain ⟨b, hb, eb⟩ := vb'
  have cb := dl_c (show b < 2 ^ 31 by omega)
  have ib : ds_b S q = b := by
    unfold ds_b
    rw [eb, cb]
  obtain ⟨c, hc2, ec⟩ := vc'
  have cc := dl_c (show c < 2 ^ 31 by omega)
  have ic : ds_c S q = c := by
    unfold ds_c
    rw [ec, cc]
  have nb : ¬ ds_br (S (q * 4)) := by
    unfold ds_br
    rw [k]
    decide
  have nj : ¬ ds_jp (S (q * 4)) := by
    unfold ds_jp
    rw [k]
    decide
  have n12 : ¬ S (q * 4) = 12 := by
    rw [k]
    decide
  by_cases g : va b = va c
  · have ev : ds_val S va q = 1 := by
      unfold ds_val
      rw [if_neg (by rw [k]; decide), if_neg (by rw [k]; decide), if_neg (by rw [k]; decide), if_neg (by rw [k]; decide), if_neg (by rw [k]; decide), if_pos k, ib, ic, if_pos g]
    have e : ds_step S (dp_Tg S L) (q, va, ov, oc) = (q + 1, upd va t (1), ov, oc) := by
      rw [ds_step_w nb nj n12]
      show (q + 1, upd va (ds_a S q) (ds_val S va q), ov, oc) = _
      rw [ia, ev]
    have zz := z _ _ _ _ e
    unfold wpX_step
    refine nm_r (dl_m4 q) ⟨v0, nm_r (e' := 7) (by rw [c0]; exact p0.trans k) ⟨v1, nm_r (e' := nI t) (by rw [c1]; exact p1.trans ea) ⟨v2, nm_r (e' := nI b) (by rw [c2]; exact p2.trans eb) ⟨v3, nm_r (e' := nI c) (by rw [c3]; exact p3.trans ec) (br_t (by decide) (br_f (by decide) (br_f (by decide) (br_f (by decide) (br_f (by decide) (br_f (by decide) (br_f (by decide) (br_f (by decide) (br_f (by decide) (br_t rfl ⟨vp_in_nI hb (by omega), vp_in_nI hc2 (by omega), ?_⟩))))))))))⟩⟩⟩⟩
    rw [cb, cc]
    exact br_t g ⟨vp_in_nI ht (by omega), nm_r (e' := upd va t 1) (by rw [ct]) (nm_r (nI_1 q) zz)⟩
  · have ev : ds_val S va q = 0 := by
      unfold ds_val
      rw [if_neg (by rw [k]; decide), if_neg (by rw [k]; decide), if_neg (by rw [k]; decide), if_neg (by rw [k]; decide), if_neg (by rw [k]; decide), if_pos k, ib, ic, if_neg g]
    have e : ds_step S (dp_Tg S L) (q, va, ov, oc) = (q + 1, upd va t (0), ov, oc) := by
      rw [ds_step_w nb nj n12]
      show (q + 1, upd va (ds_a S q) (ds_val S va q), ov, oc) = _
      rw [ia, ev]
    have zz := z _ _ _ _ e
    unfold wpX_step
    refine nm_r (dl_m4 q) ⟨v0, nm_r (e' := 7) (by rw [c0]; exact p0.trans k) ⟨v1, nm_r (e' := nI t) (by rw [c1]; exact p1.trans ea) ⟨v2, nm_r (e' := nI b) (by rw [c2]; exact p2.trans eb) ⟨v3, nm_r (e' := nI c) (by rw [c3]; exact p3.trans ec) (br_t (by decide) (br_f (by decide) (br_f (by decide) (br_f (by decide) (br_f (by decide) (br_f (by decide) (br_f (by decide) (br_f (by decide) (br_f (by decide) (br_t rfl ⟨vp_in_nI hb (by omega), vp_in_nI hc2 (by omega), ?_⟩))))))))))⟩⟩⟩⟩
    rw [cb, cc]
    exact br_f g ⟨vp_in_nI ht (by omega), nm_r (e' := upd va t 0) (by rw [ct]) (nm_r (nI_1 q) zz)⟩
theorem dp_h12 {post : St2 → Prop} {L q : Nat} {S : Nat → Int32} (hL : L ≤ 64) (hq : q < L) (hT : dp_T L st S) (hj : ∀ q, q < L → ds_ct S q → jm q = dp_Tg S L q) (ho : ds_ok (q, va, ov, oc)) (z : ∀ (q' : Nat) (va' ov' oc' : Nat → Int32), ds_step S (dp_Tg S L) (q, va, ov, oc) = (q', va', ov', oc') → post (xP, xC, xA, nI L, xO, nI q', xS, xK, dA, aA, po, st, jm, pl, op, el, so, ip, va', ov', oc')) (k : S (q * 4) = 12) (va' : dl_hc (S (q * 4 + 1))) (vb' : dl_v (S (q * 4 + 2))) : wpX_step post (xP, xC, xA, nI L, xO, nI q, xS, xK, dA, aA, po, st, jm, pl, op, el, so, ip, va, ov, oc) := by
  have p0 := hT.1 (q * 4) (by omega)
  have p1 := hT.1 (q * 4 + 1) (by omega)
  have p2 := hT.1 (q * 4 + 2) (by omega)
  have p3 := hT.1 (q * 4 + 3) (by omega)
  obtain ⟨v0, c0⟩ := dl_s0 (show q < 64 by omega)
  obtain ⟨v1, c1⟩ := dl_s1 (show q < 64 by omega)
  obtain ⟨v2, c2⟩ := dl_s2 (show q < 64 by omega)
  obtain ⟨v3, c3⟩ := dl_s3 (show q < 64 by omega)
  have vq : vp_in (nI q) 64 := vp_in_nI (by omega) (by omega)
  have cq := dl_c (show q < 2 ^ 31 by omega)
  obtain ⟨t, ht, ea⟩ := va'
  have ct := dl_c (show t < 2 ^ 31 by omega)
  have ia : ds_a S q = t := by
    unfold ds_a
    rw [ea, ct]
  obtain ⟨b, hb, eb⟩ := vb'
  have cb := dl_c (show b < 2 ^ 31 by omega)
  have ib : ds_b S q = b := by
    unfold ds_b
    rw [eb, cb]
  have nb : ¬ ds_br (S (q * 4)) := by
    unfold ds_br
    rw [k]
    decide
  have nj : ¬ ds_jp (S (q * 4)) := by
    unfold ds_jp
    rw [k]
    decide
  obtain ⟨n, hn, en⟩ := ho t ht
  have en : oc t = nI n := en
  have ecn : ds_cn oc t = n := by
    unfold ds_cn
    rw [en, dl_c (by omega)]
  have vt : vp_in (nI t) 4 := vp_in_nI ht (by omega)
  have vb2 : vp_in (nI b) 16 := vp_in_nI hb (by omega)
  rcases Nat.lt_or_ge n 16 with n16 | n16
  · have l1 : nI n < 16 := nI_lt (b := 16) n16 (by omega)
    have vo : vp_in (nI (t * 16 + n)) 64 := vp_in_nI (by omega) (by omega)
    have co := dl_c (show t * 16 + n < 2 ^ 31 by omega)
    have e : ds_step S (dp_Tg S L) (q, va, ov, oc) = (q + 1, va, upd ov (t * 16 + n) (va b), upd oc t (nI (n + 1))) := by
      rw [ds_step_o1 nb nj k (by show ds_cn oc (ds_a S q) < 16; rw [ia, ecn]; exact n16)]
      show (q + 1, va, upd ov (ds_a S q * 16 + ds_cn oc (ds_a S q)) (va (ds_b S q)), upd oc (ds_a S q) (nI (ds_cn oc (ds_a S q) + 1))) = _
      rw [ia, ib, ecn]
    have zz := z _ _ _ _ e
    unfold wpX_step
    refine nm_r (dl_m4 q) ⟨v0, nm_r (e' := 12) (by rw [c0]; exact p0.trans k) ⟨v1, nm_r (e' := nI t) (by rw [c1]; exact p1.trans ea) ⟨v2, nm_r (e' := nI b) (by rw [c2]; exact p2.trans eb) ⟨v3, nm_e (br_f (by decide) (br_f (by decide) (br_f (by decide) (br_f (by decide) (br_f (by decide) (br_f (by decide) (br_t rfl ⟨vb2, ?_⟩)))))))⟩⟩⟩⟩
    unfold wpX_append
    refine ⟨vt, nm_r (e' := nI n) (by rw [ct]; exact en) (br_t l1 ?_)⟩
    rw [dl_m16, co, ct, cb, nI_1]
    exact ⟨vo, nm_e ⟨vt, nm_e (nm_r (nI_1 q) zz)⟩⟩
  · have l1 : ¬ nI n < 16 := nI_nlt (b := 16) n16 (by omega)
    have e : ds_step S (dp_Tg S L) (q, va, ov, oc) = (q + 1, va, ov, oc) := by
      rw [ds_step_o0 nb nj k (by show ¬ ds_cn oc (ds_a S q) < 16; rw [ia, ecn]; omega)]
    have zz := z _ _ _ _ e
    unfold wpX_step
    refine nm_r (dl_m4 q) ⟨v0, nm_r (e' := 12) (by rw [c0]; exact p0.trans k) ⟨v1, nm_r (e' := nI t) (by rw [c1]; exact p1.trans ea) ⟨v2, nm_r (e' := nI b) (by rw [c2]; exact p2.trans eb) ⟨v3, nm_e (br_f (by decide) (br_f (by decide) (br_f (by decide) (br_f (by decide) (br_f (by decide) (br_f (by decide) (br_t rfl ⟨vb2, ?_⟩)))))))⟩⟩⟩⟩
    unfold wpX_append
    exact ⟨vt, nm_r (e' := nI n) (by rw [ct]; exact en) (br_f l1 (nm_r (nI_1 q) zz))⟩
theorem dp_h8 {post : St2 → Prop} {L q : Nat} {S : Nat → Int32} (hL : L ≤ 64) (hq : q < L) (hT : dp_T L st S) (hj : ∀ q, q < L → ds_ct S q → jm q = dp_Tg S L q) (ho : ds_ok (q, va, ov, oc)) (z : ∀ (q' : Nat) (va' ov' oc' : Nat → Int32), ds_step S (dp_Tg S L) (q, va, ov, oc) = (q', va', ov', oc') → post (xP, xC, xA, nI L, xO, nI q', xS, xK, dA, aA, po, st, jm, pl, op, el, so, ip, va', ov', oc')) (k : S (q * 4) = 8) (va' : dl_v (S (q * 4 + 1))) : wpX_step post (xP, xC, xA, nI L, xO, nI q, xS, xK, dA, aA, po, st, jm, pl, op, el, so, ip, va, ov, oc) := by
  have p0 := hT.1 (q * 4) (by omega)
  have p1 := hT.1 (q * 4 + 1) (by omega)
  have p2 := hT.1 (q * 4 + 2) (by omega)
  have p3 := hT.1 (q * 4 + 3) (by omega)
  obtain ⟨v0, c0⟩ := dl_s0 (show q < 64 by omega)
  obtain ⟨v1, c1⟩ := dl_s1 (show q < 64 by omega)
  obtain ⟨v2, c2⟩ := dl_s2 (show q < 64 by omega)
  obtain ⟨v3, c3⟩ := dl_s3 (show q < 64 by omega)
  have vq : vp_in (nI q) 64 := vp_in_nI (by omega) (by omega)
  have cq := dl_c (show q < 2 ^ 31 by omega)
  obtain ⟨t, ht, ea⟩ := va'
  have ct := dl_c (show t < 2 ^ 31 by omega)
  have ia : ds_a S q = t := by
    unfold ds_a
    rw [ea, ct]
  have kb : ds_br (S (q * 4)) := Or.inl k
  by_cases g : va t = 0
  · obtain ⟨q', hq', e⟩ := dp_Tg_r (S := S) hq hL
    have ej := (hj q hq (Or.inl kb)).trans e
    have es : ds_step S (dp_Tg S L) (q, va, ov, oc) = (q', va, ov, oc) := by
      rw [ds_step_b0 kb (by show va (ds_a S q) = 0; rw [ia]; exact g)]
      show ((dp_Tg S L q).toNatClampNeg, va, ov, oc) = _
      rw [e, dl_c (by omega)]
    have zz := z _ _ _ _ es
    unfold wpX_step
    refine nm_r (dl_m4 q) ⟨v0, nm_r (e' := 8) (by rw [c0]; exact p0.trans k) ⟨v1, nm_r (e' := nI t) (by rw [c1]; exact p1.trans ea) ⟨v2, nm_e ⟨v3, nm_e (br_f (by decide) (br_f (by decide) (br_t rfl (?_))))⟩⟩⟩⟩
    unfold wX_step_80
    rw [ct, cq]
    exact ⟨vp_in_nI ht (by omega), br_t g ⟨vq, nm_r ej zz⟩⟩
  · have es : ds_step S (dp_Tg S L) (q, va, ov, oc) = (q + 1, va, ov, oc) := by
      rw [ds_step_b1 kb (by show ¬ va (ds_a S q) = 0; rw [ia]; exact g)]
    have zz := z _ _ _ _ es
    unfold wpX_step
    refine nm_r (dl_m4 q) ⟨v0, nm_r (e' := 8) (by rw [c0]; exact p0.trans k) ⟨v1, nm_r (e' := nI t) (by rw [c1]; exact p1.trans ea) ⟨v2, nm_e ⟨v3, nm_e (br_f (by decide) (br_f (by decide) (br_t rfl (?_))))⟩⟩⟩⟩
    unfold wX_step_80
    rw [ct]
    exact ⟨vp_in_nI ht (by omega), br_f g (nm_r (nI_1 q) zz)⟩
theorem dp_h11 {post : St2 → Prop} {L q : Nat} {S : Nat → Int32} (hL : L ≤ 64) (hq : q < L) (hT : dp_T L st S) (hj : ∀ q, q < L → ds_ct S q → jm q = dp_Tg S L q) (ho : ds_ok (q, va, ov, oc)) (z : ∀ (q' : Nat) (va' ov' oc' : Nat → Int32), ds_step S (dp_Tg S L) (q, va, ov, oc) = (q', va', ov', oc') → post (xP, xC, xA, nI L, xO, nI q', xS, xK, dA, aA, po, st, jm, pl, op, el, so, ip, va', ov', oc')) (k : S (q * 4) = 11) (va' : dl_v (S (q * 4 + 1))) : wpX_step post (xP, xC, xA, nI L, xO, nI q, xS, xK, dA, aA, po, st, jm, pl, op, el, so, ip, va, ov, oc) := by
  have p0 := hT.1 (q * 4) (by omega)
  have p1 := hT.1 (q * 4 + 1) (by omega)
  have p2 := hT.1 (q * 4 + 2) (by omega)
  have p3 := hT.1 (q * 4 + 3) (by omega)
  obtain ⟨v0, c0⟩ := dl_s0 (show q < 64 by omega)
  obtain ⟨v1, c1⟩ := dl_s1 (show q < 64 by omega)
  obtain ⟨v2, c2⟩ := dl_s2 (show q < 64 by omega)
  obtain ⟨v3, c3⟩ := dl_s3 (show q < 64 by omega)
  have vq : vp_in (nI q) 64 := vp_in_nI (by omega) (by omega)
  have cq := dl_c (show q < 2 ^ 31 by omega)
  obtain ⟨t, ht, ea⟩ := va'
  have ct := dl_c (show t < 2 ^ 31 by omega)
  have ia : ds_a S q = t := by
    unfold ds_a
    rw [ea, ct]
  have kb : ds_br (S (q * 4)) := Or.inr k
  by_cases g : va t = 0
  · obtain ⟨q', hq', e⟩ := dp_Tg_r (S := S) hq hL
    have ej := (hj q hq (Or.inl kb)).trans e
    have es : ds_step S (dp_Tg S L) (q, va, ov, oc) = (q', va, ov, oc) := by
      rw [ds_step_b0 kb (by show va (ds_a S q) = 0; rw [ia]; exact g)]
      show ((dp_Tg S L q).toNatClampNeg, va, ov, oc) = _
      rw [e, dl_c (by omega)]
    have zz := z _ _ _ _ es
    unfold wpX_step
    refine nm_r (dl_m4 q) ⟨v0, nm_r (e' := 11) (by rw [c0]; exact p0.trans k) ⟨v1, nm_r (e' := nI t) (by rw [c1]; exact p1.trans ea) ⟨v2, nm_e ⟨v3, nm_e (br_f (by decide) (br_f (by decide) (br_f (by decide) (br_f (by decide) (br_f (by decide) (br_t rfl (?_)))))))⟩⟩⟩⟩
    unfold wX_step_80
    rw [ct, cq]
    exact ⟨vp_in_nI ht (by omega), br_t g ⟨vq, nm_r ej zz⟩⟩
  · have es : ds_step S (dp_Tg S L) (q, va, ov, oc) = (q + 1, va, ov, oc) := by
      rw [ds_step_b1 kb (by show ¬ va (ds_a S q) = 0; rw [ia]; exact g)]
    have zz := z _ _ _ _ es
    unfold wpX_step
    refine nm_r (dl_m4 q) ⟨v0, nm_r (e' := 11) (by rw [c0]; exact p0.trans k) ⟨v1, nm_r (e' := nI t) (by rw [c1]; exact p1.trans ea) ⟨v2, nm_e ⟨v3, nm_e (br_f (by decide) (br_f (by decide) (br_f (by decide) (br_f (by decide) (br_f (by decide) (br_t rfl (?_)))))))⟩⟩⟩⟩
    unfold wX_step_80
    rw [ct]
    exact ⟨vp_in_nI ht (by omega), br_f g (nm_r (nI_1 q) zz)⟩
theorem dp_h9 {post : St2 → Prop} {L q : Nat} {S : Nat → Int32} (hL : L ≤ 64) (hq : q < L) (hT : dp_T L st S) (hj : ∀ q, q < L → ds_ct S q → jm q = dp_Tg S L q) (ho : ds_ok (q, va, ov, oc)) (z : ∀ (q' : Nat) (va' ov' oc' : Nat → Int32), ds_step S (dp_Tg S L) (q, va, ov, oc) = (q', va', ov', oc') → post (xP, xC, xA, nI L, xO, nI q', xS, xK, dA, aA, po, st, jm, pl, op, el, so, ip, va', ov', oc')) (k : S (q * 4) = 9) : wpX_step post (xP, xC, xA, nI L, xO, nI q, xS, xK, dA, aA, po, st, jm, pl, op, el, so, ip, va, ov, oc) := by
  have p0 := hT.1 (q * 4) (by omega)
  have p1 := hT.1 (q * 4 + 1) (by omega)
  have p2 := hT.1 (q * 4 + 2) (by omega)
  have p3 := hT.1 (q * 4 + 3) (by omega)
  obtain ⟨v0, c0⟩ := dl_s0 (show q < 64 by omega)
  obtain ⟨v1, c1⟩ := dl_s1 (show q < 64 by omega)
  obtain ⟨v2, c2⟩ := dl_s2 (show q < 64 by omega)
  obtain ⟨v3, c3⟩ := dl_s3 (show q < 64 by omega)
  have vq : vp_in (nI q) 64 := vp_in_nI (by omega) (by omega)
  have cq := dl_c (show q < 2 ^ 31 by omega)
  have kj : ds_jp (S (q * 4)) := Or.inl k
  have nb : ¬ ds_br (S (q * 4)) := by
    unfold ds_br
    rw [k]
    decide
  obtain ⟨q', hq', e⟩ := dp_Tg_r (S := S) hq hL
  have ej := (hj q hq (Or.inr kj)).trans e
  have es : ds_step S (dp_Tg S L) (q, va, ov, oc) = (q', va, ov, oc) := by
    rw [ds_step_j nb kj]
    show ((dp_Tg S L q).toNatClampNeg, va, ov, oc) = _
    rw [e, dl_c (by omega)]
  have zz := z _ _ _ _ es
  unfold wpX_step
  refine nm_r (dl_m4 q) ⟨v0, nm_r (e' := 9) (by rw [c0]; exact p0.trans k) ⟨v1, nm_e ⟨v2, nm_e ⟨v3, nm_e (br_f (by decide) (br_f (by decide) (br_f (by decide) (br_t rfl (?_)))))⟩⟩⟩⟩
  unfold wX_step_114
  rw [cq]
  exact ⟨vq, nm_r ej zz⟩
theorem dp_h10 {post : St2 → Prop} {L q : Nat} {S : Nat → Int32} (hL : L ≤ 64) (hq : q < L) (hT : dp_T L st S) (hj : ∀ q, q < L → ds_ct S q → jm q = dp_Tg S L q) (ho : ds_ok (q, va, ov, oc)) (z : ∀ (q' : Nat) (va' ov' oc' : Nat → Int32), ds_step S (dp_Tg S L) (q, va, ov, oc) = (q', va', ov', oc') → post (xP, xC, xA, nI L, xO, nI q', xS, xK, dA, aA, po, st, jm, pl, op, el, so, ip, va', ov', oc')) (k : S (q * 4) = 10) : wpX_step post (xP, xC, xA, nI L, xO, nI q, xS, xK, dA, aA, po, st, jm, pl, op, el, so, ip, va, ov, oc) := by
  have p0 := hT.1 (q * 4) (by omega)
  have p1 := hT.1 (q * 4 + 1) (by omega)
  have p2 := hT.1 (q * 4 + 2) (by omega)
  have p3 := hT.1 (q * 4 + 3) (by omega)
  obtain ⟨v0, c0⟩ := dl_s0 (show q < 64 by omega)
  obtain ⟨v1, c1⟩ := dl_s1 (show q < 64 by omega)
  obtain ⟨v2, c2⟩ := dl_s2 (show q < 64 by omega)
  obtain ⟨v3, c3⟩ := dl_s3 (show q < 64 by omega)
  have vq : vp_in (nI q) 64 := vp_in_nI (by omega) (by omega)
  have cq := dl_c (show q < 2 ^ 31 by omega)
  have kj : ds_jp (S (q * 4)) := Or.inr k
  have nb : ¬ ds_br (S (q * 4)) := by
    unfold ds_br
    rw [k]
    decide
  obtain ⟨q', hq', e⟩ := dp_Tg_r (S := S) hq hL
  have ej := (hj q hq (Or.inr kj)).trans e
  have es : ds_step S (dp_Tg S L) (q, va, ov, oc) = (q', va, ov, oc) := by
    rw [ds_step_j nb kj]
    show ((dp_Tg S L q).toNatClampNeg, va, ov, oc) = _
    rw [e, dl_c (by omega)]
  have zz := z _ _ _ _ es
  unfold wpX_step
  refine nm_r (dl_m4 q) ⟨v0, nm_r (e' := 10) (by rw [c0]; exact p0.trans k) ⟨v1, nm_e ⟨v2, nm_e ⟨v3, nm_e (br_f (by decide) (br_f (by decide) (br_f (by decide) (br_f (by decide) (br_t rfl (?_))))))⟩⟩⟩⟩
  unfold wX_step_114
  rw [cq]
  exact ⟨vq, nm_r ej zz⟩
theorem dp_step {post : St2 → Prop} {L q : Nat} {S : Nat → Int32} (hL : L ≤ 64) (hq : q < L) (hT : dp_T L st S) (hj : ∀ q, q < L → ds_ct S q → jm q = dp_Tg S L q) (ho : ds_ok (q, va, ov, oc)) (z : ∀ (q' : Nat) (va' ov' oc' : Nat → Int32), ds_step S (dp_Tg S L) (q, va, ov, oc) = (q', va', ov', oc') → post (xP, xC, xA, nI L, xO, nI q', xS, xK, dA, aA, po, st, jm, pl, op, el, so, ip, va', ov', oc')) : wpX_step post (xP, xC, xA, nI L, xO, nI q, xS, xK, dA, aA, po, st, jm, pl, op, el, so, ip, va, ov, oc) := by
  rcases hT.2 q hq with ⟨k, h1, _⟩ | ⟨k, h1, h2, _⟩ | ⟨k, h1, h2, _⟩ | ⟨k, h1, h2, h3⟩ | ⟨k, h1, _⟩ | ⟨k, _⟩ | ⟨k, h1, h2, _⟩
  · exact dp_h1 hL hq hT hj ho z k h1
  · exact dp_h2 hL hq hT hj ho z k h1 h2
  · exact dp_h13 hL hq hT hj ho z k h1 h2
  · rcases k with k | k | k | k | k
    · exact dp_h3 hL hq hT hj ho z k h1 h2 h3
    · exact dp_h4 hL hq hT hj ho z k h1 h2 h3
    · exact dp_h5 hL hq hT hj ho z k h1 h2 h3
    · exact dp_h6 hL hq hT hj ho z k h1 h2 h3
    · exact dp_h7 hL hq hT hj ho z k h1 h2 h3
  · rcases k with k | k
    · exact dp_h8 hL hq hT hj ho z k h1
    · exact dp_h11 hL hq hT hj ho z k h1
  · rcases k with k | k
    · exact dp_h9 hL hq hT hj ho z k
    · exact dp_h10 hL hq hT hj ho z k
  · exact dp_h12 hL hq hT hj ho z k h1 h2
theorem dp_step_L {S : Nat → Int32} {L : Nat} {s : ds_S} (hL : L ≤ 64) (hq : s.1 < L) : (ds_step S (dp_Tg S L) s).1 ≤ L := by
  obtain ⟨r, r1, r2⟩ := dp_Tg_r (S := S) hq hL
  have c : (dp_Tg S L s.1).toNatClampNeg ≤ L := by
    rw [r2, dl_c (by omega)]
    exact r1
  by_cases b : ds_br (S (s.1 * 4))
  · by_cases g : s.2.1 (ds_a S s.1) = 0
    · rw [ds_step_b0 b g]; exact c
    · rw [ds_step_b1 b g]; exact hq
  · by_cases j : ds_jp (S (s.1 * 4))
    · rw [ds_step_j b j]; exact c
    · rw [ds_step_1 b j]; exact hq
/-- the run's loop -/
theorem dp_runl {post : Int32 → St2 → Prop} {L m : Nat} {S : Nat → Int32} (hL : L ≤ 64) (hm : m ≤ 1000) (hT : dp_T L st S) (hj : ∀ q, q < L → ds_ct S q → jm q = dp_Tg S L q) : ∀ (d t : Nat) (s : ds_S), t + d = m → s.1 ≤ L → ds_ok s → (∀ (r x : Int32) (s' : ds_S), s' = ds_run S (dp_Tg S L) L d s → s'.1 ≤ L → ds_ok s' → (x = 2 ∨ (x = 3 ∧ ¬ s'.1 < L)) → post r (xP, xC, xA, nI L, xO, nI s'.1, x, xK, dA, aA, po, st, jm, pl, op, el, so, ip, s'.2.1, s'.2.2.1, s'.2.2.2)) → wX_run_24 post (nI m) (d + 1) (nI t) xP xC xA (nI L) xO (nI s.1) 2 xK dA aA po st jm pl op el so ip s.2.1 s.2.2.1 s.2.2.2 := by
  intro d
  induction d with
  | zero =>
    intro t s hd hq ho z
    have e : t = m := by omega
    subst e
    have le : nI t ≤ nI t := nI_le (Nat.le_refl _) (by omega)
    rcases Nat.lt_or_ge s.1 L with h | h
    · exact br_t le (br_t (nI_lt h (by omega)) (z _ 2 s rfl hq ho (Or.inl rfl)))
    · exact br_t le (br_f (nI_nlt h (by omega)) (z _ 3 s rfl hq ho (Or.inr ⟨rfl, by omega⟩)))
  | succ d ih =>
    intro t s hd hq ho z
    have ge : ¬ nI m ≤ nI t := nI_ge (by omega) (by omega)
    rcases Nat.lt_or_ge s.1 L with h | h
    · refine br_f ge (br_f (nI_ge h (by omega)) (dp_step hL h hT hj ho (fun q' va' ov' oc' e => nm_r (nI_1 t) ?_)))
      refine ih (t + 1) (q', va', ov', oc') (by omega) ?_ ?_ (fun r x s' hs => z r x s' ?_)
      · have g := dp_step_L (S := S) hL h
        rw [show s = (s.1, s.2.1, s.2.2.1, s.2.2.2) from rfl, e] at g
        exact g
      · have g := ds_step_ok (st := S) (jm := dp_Tg S L) ho
        rw [show s = (s.1, s.2.1, s.2.2.1, s.2.2.2) from rfl, e] at g
        exact g
      · rw [hs, ds_run_s h, show s = (s.1, s.2.1, s.2.2.1, s.2.2.2) from rfl, e]
    · refine br_f ge (br_t (nI_le h (by omega)) (br_f (nI_nlt h (by omega)) (z _ 3 s ?_ hq ho (Or.inr ⟨rfl, by omega⟩))))
      exact (ds_run_e (by omega) _).symm
/-- a checked object, with its inputs; a running one, with its machine -/
def dp_I (P L p : Nat) (S : Nat → Int32) (lv lc : Nat → Prop) (ip' : Nat → Int32) (u : St2) : Prop := match u with
  | (xP, xC, xA, xL, xO, xQ, xS, xK, dA, aA, po, st, jm, pl, op, el, so, ip, va, ov, oc) => xP = nI P ∧ xL = nI L ∧ ip = ip' ∧ (2 ≤ P ∧ P ≤ 8) ∧ L ≤ 64 ∧ dp_T L st S ∧ (∀ q, q < L → ds_ct S q → jm q = dp_Tg S L q) ∧ lv = ds_lv P aA po p ∧ lc = ds_lc P aA po p ∧ ¬ xS = 0
def dp_M (P L p : Nat) (S : Nat → Int32) (lv lc : Nat → Prop) (x : Int32) (s : ds_S) (u : St2) : Prop := match u with
  | (xP, xC, xA, xL, xO, xQ, xS, xK, dA, aA, po, st, jm, pl, op, el, so, ip, va, ov, oc) => xP = nI P ∧ xL = nI L ∧ xQ = nI s.1 ∧ xS = x ∧ va = s.2.1 ∧ ov = s.2.2.1 ∧ oc = s.2.2.2 ∧ (2 ≤ P ∧ P ≤ 8) ∧ L ≤ 64 ∧ dp_T L st S ∧ (∀ q, q < L → ds_ct S q → jm q = dp_Tg S L q) ∧ lv = ds_lv P aA po p ∧ lc = ds_lc P aA po p ∧ s.1 ≤ L ∧ ds_ok s ∧ (x = 2 ∨ (x = 3 ∧ ¬ s.1 < L))
theorem dp_I_of {P L p : Nat} {S : Nat → Int32} {lv lc : Nat → Prop} {u : St2} (h : dp_X P L S u) (g : dp_C P L p S lv lc u) : dp_I P L p S lv lc (fun _ => 0) u := by
  obtain ⟨xP, xC, xA, xL, xO, xQ, xS, xK, dA, aA, po, st, jm, pl, op, el, so, ip, va, ov, oc⟩ := u
  obtain ⟨h1, h2, h3, h4, h5, h6, h7, h8⟩ := h
  obtain ⟨g1, g2, g3, g4, _⟩ := g
  exact ⟨h1, h4, h5, h6, h7, h8, g2, g3, g4, g1⟩
theorem dp_canI {post : Int32 → Prop} {P L p v : Nat} {S : Nat → Int32} {lv lc : Nat → Prop} {ip' : Nat → Int32} {u : St2} (hp : p < P) (hv : v < 16) (h : dp_I P L p S lv lc ip' u) (h1 : lv v → post 1) (h0 : ¬ lv v → post 0) : wpX_canRead post u (nI p) (nI v) := by
  obtain ⟨xP, xC, xA, xL, xO, xQ, xS, xK, dA, aA, po, st, jm, pl, op, el, so, ip, va, ov, oc⟩ := u
  obtain ⟨rfl, rfl, rfl, ⟨P2, P8⟩, hL, hT, hj, rfl, rfl, hs⟩ := h
  unfold wpX_canRead
  exact dx_isP1 P8 hp (br_f (by decide) (dx_isTarget1 (by omega) (br_f (by decide) (dx_rd P8 (by omega) hp (fun z => h1 ⟨hv, z⟩) (fun z => h0 (fun y => z y.2))))))
theorem dp_canM {post : Int32 → Prop} {P L p c : Nat} {S : Nat → Int32} {lv lc : Nat → Prop} {x : Int32} {s : ds_S} {u : St2} (hp : p < P) (hc : c < 4) (h : dp_M P L p S lv lc x s u) (h1 : lc c → post 1) (h0 : ¬ lc c → post 0) : wpX_canRead post u (nI p) (16 + nI c) := by
  obtain ⟨xP, xC, xA, xL, xO, xQ, xS, xK, dA, aA, po, st, jm, pl, op, el, so, ip, va, ov, oc⟩ := u
  obtain ⟨rfl, rfl, rfl, rfl, rfl, rfl, rfl, ⟨P2, P8⟩, hL, hT, hj, rfl, rfl, _⟩ := h
  rw [show (16 : Int32) + nI c = nI (16 + c) from nI_add 16 c]
  unfold wpX_canRead
  exact dx_isP1 P8 hp (br_f (by decide) (dx_isTarget1 (by omega) (br_f (by decide) (dx_rd P8 (by omega) hp (fun z => h1 ⟨hc, z⟩) (fun z => h0 (fun y => z y.2))))))
theorem dp_setI {post : Int32 → St2 → Prop} {P L p v : Nat} {S : Nat → Int32} {lv lc : Nat → Prop} {ip' : Nat → Int32} {u : St2} {y : Int32} (hv : v < 16) (h : dp_I P L p S lv lc ip' u) (q : ∀ r u', dp_I P L p S lv lc (upd ip' v y) u' → post r u') : wpX_setInput post u (nI v) y := by
  obtain ⟨xP, xC, xA, xL, xO, xQ, xS, xK, dA, aA, po, st, jm, pl, op, el, so, ip, va, ov, oc⟩ := u
  obtain ⟨rfl, rfl, rfl, ⟨P2, P8⟩, hL, hT, hj, rfl, rfl, hs⟩ := h
  unfold wpX_setInput
  refine dx_isVariable1 hv (br_f (by decide) ⟨vp_in_nI hv (by omega), nm_r (e' := upd ip v y) (by rw [dl_c (by omega)]) (q _ _ ?_)⟩)
  exact ⟨rfl, rfl, rfl, ⟨P2, P8⟩, hL, hT, hj, rfl, rfl, hs⟩
theorem dl_zn4 (f : Nat → Int32) : ∀ c, c < 4 → dl_zn f 4 c = 0 := by
  intro c hc
  have e : c = 0 ∨ c = 1 ∨ c = 2 ∨ c = 3 := by omega
  rcases e with e | e | e | e <;> subst e <;> rfl
theorem dx_load {post : Int32 → St2 → Prop} (h : post 1 (xP, xC, xA, xL, xO, 0, 2, xK, dA, aA, po, st, jm, pl, op, el, so, ip, dl_row ip va 16, ov, dl_zn oc 4)) : ∃ n, wX_start_11 post xP xC xA xL xO xQ xS xK n 0 dA aA po st jm pl op el so ip va ov oc := by
  refine loop_0 (fun n i a => wX_start_11 post xP xC xA xL xO xQ xS xK n (nI i) dA aA po st jm pl op el so ip a ov oc) (fun i a => a = dl_row ip va i) 16 va (dl_row_0 _ _).symm ?_ ?_
  · intro n a ha
    subst ha
    exact br_t (nI_le (a := 16) (b := 16) (by omega) (by omega)) (dx_empty h)
  · intro n i a hi ha ih
    subst ha
    refine br_f (nI_ge (b := 16) hi (by omega)) ?_
    rw [dl_c (show i < 2 ^ 31 by omega)]
    exact ⟨vp_in_nI (by omega) (by omega), vp_in_nI (by omega) (by omega), nm_e (nm_r (nI_1 i) (ih _ (dl_row_s rfl)))⟩
theorem dp_start {post : Int32 → St2 → Prop} {P L p : Nat} {S : Nat → Int32} {lv lc : Nat → Prop} {ip' : Nat → Int32} {u : St2} (h : dp_I P L p S lv lc ip' u) (q : ∀ (s : ds_S) u', s.1 = 0 → (∀ v, v < 16 → s.2.1 v = ip' v) → (∀ c, c < 4 → s.2.2.2 c = 0) → dp_M P L p S lv lc 2 s u' → post 1 u') : wpX_start post u := by
  obtain ⟨xP, xC, xA, xL, xO, xQ, xS, xK, dA, aA, po, st, jm, pl, op, el, so, ip, va, ov, oc⟩ := u
  obtain ⟨rfl, rfl, rfl, ⟨P2, P8⟩, hL, hT, hj, rfl, rfl, hs⟩ := h
  unfold wpX_start
  refine br_f hs (dx_load (q (0, dl_row ip va 16, ov, dl_zn oc 4) _ rfl (fun v hv => dl_row_l hv) (dl_zn4 oc) ?_))
  exact ⟨rfl, rfl, rfl, rfl, rfl, rfl, rfl, ⟨P2, P8⟩, hL, hT, hj, rfl, rfl, Nat.zero_le _, fun c hc => ⟨0, by omega, dl_zn4 oc c hc⟩, Or.inl rfl⟩
theorem dp_run {post : Int32 → St2 → Prop} {P L p n : Nat} {S : Nat → Int32} {lv lc : Nat → Prop} {x : Int32} {s : ds_S} {u : St2} (n1 : 1 ≤ n) (n2 : n ≤ 1000) (h : dp_M P L p S lv lc x s u) (q : ∀ (r x' : Int32) (s' : ds_S) u', s' = ds_run S (dp_Tg S L) L n s → dp_M P L p S lv lc x' s' u' → post r u') : wpX_run post u (nI n) := by
  have hh := h
  obtain ⟨xP, xC, xA, xL, xO, xQ, xS, xK, dA, aA, po, st, jm, pl, op, el, so, ip, va, ov, oc⟩ := u
  obtain ⟨rfl, rfl, rfl, rfl, rfl, rfl, rfl, ⟨P2, P8⟩, hL, hT, hj, rfl, rfl, sL, ok, hx⟩ := h
  unfold wpX_run
  rcases hx with rfl | ⟨rfl, hx⟩
  · refine br_t rfl ?_
    unfold wpX_clamp
    refine br_t (nI_le (a := 1) n1 (by omega)) (br_t (nI_le (b := 1000) n2 (by omega)) ⟨n + 1, ?_⟩)
    refine dp_runl hL n2 hT hj n 0 s (by omega) sL ok (fun r x s' hs a1 a2 a3 => q r x s' _ hs ?_)
    exact ⟨rfl, rfl, rfl, rfl, rfl, rfl, rfl, ⟨P2, P8⟩, hL, hT, hj, rfl, rfl, a1, a2, a3⟩
  · exact br_f (by decide) (q _ 3 s _ (ds_run_e hx n).symm hh)
theorem dp_stat {post : Int32 → Prop} {P L p : Nat} {S : Nat → Int32} {lv lc : Nat → Prop} {x : Int32} {s : ds_S} {u : St2} (h : dp_M P L p S lv lc x s u) (q : post x) : wpX_getValue post u 35 := by
  obtain ⟨xP, xC, xA, xL, xO, xQ, xS, xK, dA, aA, po, st, jm, pl, op, el, so, ip, va, ov, oc⟩ := u
  obtain ⟨rfl, rfl, rfl, rfl, _⟩ := h
  unfold wpX_getValue
  refine dx_isVariable0 (Or.inr ⟨by decide, by decide⟩) (br_t rfl (br_f (by decide) (br_t (by decide) ?_)))
  unfold wX_getValue_36
  exact br_f (by decide) (br_f (by decide) (br_f (by decide) (br_f (by decide) (br_f (by decide) (br_t rfl q)))))
theorem dp_cnt {post : Int32 → Prop} {P L p c : Nat} {S : Nat → Int32} {lv lc : Nat → Prop} {x : Int32} {s : ds_S} {u : St2} (hc : c < 4) (h : dp_M P L p S lv lc x s u) (q : post (s.2.2.2 c)) : wpX_outCount post u (nI c) := by
  obtain ⟨xP, xC, xA, xL, xO, xQ, xS, xK, dA, aA, po, st, jm, pl, op, el, so, ip, va, ov, oc⟩ := u
  obtain ⟨rfl, rfl, rfl, rfl, rfl, rfl, rfl, _⟩ := h
  unfold wpX_outCount
  refine dx_isChannel1 hc (br_f (by decide) ⟨vp_in_nI hc (by omega), ?_⟩)
  rw [dl_c (by omega)]
  exact q
theorem dp_val {post : Int32 → Prop} {P L p c i : Nat} {S : Nat → Int32} {lv lc : Nat → Prop} {x : Int32} {s : ds_S} {u : St2} (hc : c < 4) (h : dp_M P L p S lv lc x s u) (hi : i < ds_cn s.2.2.2 c) (q : post (s.2.2.1 (c * 16 + i))) : wpX_outValue post u (nI c) (nI i) := by
  obtain ⟨xP, xC, xA, xL, xO, xQ, xS, xK, dA, aA, po, st, jm, pl, op, el, so, ip, va, ov, oc⟩ := u
  obtain ⟨rfl, rfl, rfl, rfl, rfl, rfl, rfl, _, _, _, _, _, _, _, ok, _⟩ := h
  obtain ⟨n, hn, en⟩ := ok c hc
  have ei : i < n := by
    unfold ds_cn at hi
    rw [en, dl_c (by omega)] at hi
    exact hi
  unfold wpX_outValue
  refine dx_isChannel1 hc (br_f (by decide) (br_f (nI_pos (by omega)) ⟨vp_in_nI hc (by omega), ?_⟩))
  rw [dl_c (show c < 2 ^ 31 by omega), en, dl_m16, dl_c (show c * 16 + i < 2 ^ 31 by omega)]
  exact br_t (nI_lt ei (by omega)) ⟨vp_in_nI (by omega) (by omega), q⟩
end
