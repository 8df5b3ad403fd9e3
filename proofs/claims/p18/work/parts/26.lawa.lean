/-! p18: the law's last part: rounds, channels -/
section
variable {xP xC xA xL xO xQ xS xK xP' xC' xA' xL' xO' xQ' xS' xK' : Int32} {dA aA po st jm pl op el so ip va ov oc dA' aA' po' st' jm' pl' op' el' so' ip' va' ov' oc' : Nat → Int32}

theorem dp_ofInt {y : Int32} {n : Nat} (h0 : 0 ≤ y.toInt) (h1 : y.toInt < n) : ∃ j, j < n ∧ y = nI j := by
  have z : (0 : Int32).toInt = 0 := by decide
  obtain ⟨j, hj, rfl⟩ := nI_of (x := y) (by rw [Int32.lt_iff_toInt_lt, z]; omega)
  rw [nI_toInt hj] at h1
  exact ⟨j, by omega, rfl⟩
theorem dp_cell {post : Int32 → Prop} {N k : Nat} {xs : Nat → Int32} (hN : N ≤ 260) (hk : k < 100000) (q : ∀ x, post x) : wpL_cell post N xs () (nI k) := by
  refine br_c (fun _ => q _) (fun h => ⟨?_, q _⟩)
  have h2 : ¬ nI N ≤ nI k := h
  rw [nI_leI (by omega) (by omega)] at h2
  exact vp_in_nI (by omega) (by omega)
theorem dp_m {post : Int32 → Prop} (n : Nat) (h0 : 0 < n) (hn : n < 100000) {x : Int32} (q : ∀ r, r < n → post (nI r)) : wpL_m post () x (nI n) := by
  have t := tmod_bounds (a := x.toInt) (M := (nI n).toInt) (by rw [nI_toInt (by omega)]; omega)
  rw [← rem_toInt] at t
  have b := fmOf_bounds (r := x - x / nI n * nI n) (m := nI n) (by rw [nI_toInt (by omega)]; omega) t.1 t.2
  obtain ⟨j, hj, e⟩ := dp_ofInt b.1 (n := n) (by have := b.2; rw [nI_toInt (by omega)] at this; exact this)
  refine ⟨nI_ne0 h0 (by omega), nm_e (br_c (fun h => ?_) (fun h => ?_))⟩
  · have e2 : x - x / nI n * nI n = nI j := (show fmOf (x - x / nI n * nI n) (nI n) = _ from if_pos h).symm.trans e
    rw [e2]
    exact q j hj
  · have e2 : x - x / nI n * nI n + nI n = nI j := (show fmOf (x - x / nI n * nI n) (nI n) = _ from if_neg h).symm.trans e
    rw [e2]
    exact q j hj
theorem dp_ma {post : Int32 → Prop} {x d : Int32} (h : ¬ d = 0) (q : ∀ y, post y) : wpL_m post () x d := ⟨h, nm_e (br_c (fun _ => q _) (fun _ => q _))⟩
theorem dp_849 {post : Int32 → Prop} {N : Nat} {xs : Nat → Int32} {J698 : Int32 → Int32 → Int32 → Int32 → Int32 → Int32 → Int32 → Int32 → Int32 → Int32 → (Nat → Int32) → (Nat → Int32) → (Nat → Int32) → (Nat → Int32) → (Nat → Int32) → (Nat → Int32) → (Nat → Int32) → (Nat → Int32) → (Nat → Int32) → (Nat → Int32) → (Nat → Int32) → (Nat → Int32) → (Nat → Int32) → Int32 → Int32 → Int32 → Int32 → Int32 → Int32 → Int32 → Int32 → (Nat → Int32) → (Nat → Int32) → (Nat → Int32) → (Nat → Int32) → (Nat → Int32) → (Nat → Int32) → (Nat → Int32) → (Nat → Int32) → (Nat → Int32) → (Nat → Int32) → (Nat → Int32) → (Nat → Int32) → (Nat → Int32) → Prop} {J788 : Int32 → Prop} {x2 x6 x10 x13 x15 x16 : Int32} {kc ks n c P P' L p p' : Nat} {S S' : Nat → Int32} {lv lc lv' lc' : Nat → Prop} {x x' : Int32} {s t : ds_S} (hc : c < 4) (hA : dp_M P L p S lv lc x s (xP, xC, xA, xL, xO, xQ, xS, xK, dA, aA, po, st, jm, pl, op, el, so, ip, va, ov, oc)) (hB : dp_M P' L p' S' lv' lc' x' t (xP', xC', xA', xL', xO', xQ', xS', xK', dA', aA', po', st', jm', pl', op', el', so', ip', va', ov', oc')) (hn : n < 100000) (hv : ∀ i, i < n → i < ds_cn s.2.2.2 c ∧ i < ds_cn t.2.2.2 c ∧ s.2.2.1 (c * 16 + i) = t.2.2.1 (c * 16 + i)) (hx : ¬ x13 = 0 → x15 = x16) (hJ : J788 (nI (c + 1))) : ∃ f, wL_law_849 post N xs J698 J788 x2 x6 x10 x13 (nI c) x15 x16 (nI n) kc ks xP xC xA xL xO xQ xS xK dA aA po st jm pl op el so ip va ov oc xP' xC' xA' xL' xO' xQ' xS' xK' dA' aA' po' st' jm' pl' op' el' so' ip' va' ov' oc' f 0 := by
  refine loop_0 (fun f i (_ : Unit) => wL_law_849 post N xs J698 J788 x2 x6 x10 x13 (nI c) x15 x16 (nI n) kc ks xP xC xA xL xO xQ xS xK dA aA po st jm pl op el so ip va ov oc xP' xC' xA' xL' xO' xQ' xS' xK' dA' aA' po' st' jm' pl' op' el' so' ip' va' ov' oc' f (nI i)) (fun _ _ => True) n () trivial ?_ ?_
  · intro f _ _
    exact br_t (nI_le (Nat.le_refl _) (by omega)) (br_c (fun _ => nm_r (nI_1 c) hJ) (fun z => br_t (hx z) (nm_r (nI_1 c) hJ)))
  · intro f i _ hi _ ih
    obtain ⟨a1, a2, a3⟩ := hv i hi
    exact br_f (nI_ge hi (by omega)) (dp_val hc hA a1 (dp_val hc hB a2 (br_t a3 (nm_r (nI_1 i) (ih () trivial)))))
theorem dp_788 {post : Int32 → Prop} {N : Nat} {xs : Nat → Int32} {J698 : Int32 → Int32 → Int32 → Int32 → Int32 → Int32 → Int32 → Int32 → Int32 → Int32 → (Nat → Int32) → (Nat → Int32) → (Nat → Int32) → (Nat → Int32) → (Nat → Int32) → (Nat → Int32) → (Nat → Int32) → (Nat → Int32) → (Nat → Int32) → (Nat → Int32) → (Nat → Int32) → (Nat → Int32) → (Nat → Int32) → Int32 → Int32 → Int32 → Int32 → Int32 → Int32 → Int32 → Int32 → (Nat → Int32) → (Nat → Int32) → (Nat → Int32) → (Nat → Int32) → (Nat → Int32) → (Nat → Int32) → (Nat → Int32) → (Nat → Int32) → (Nat → Int32) → (Nat → Int32) → (Nat → Int32) → (Nat → Int32) → (Nat → Int32) → Prop} {x2 x13 : Int32} {kc ks rd P P' L p p' : Nat} {S S' : Nat → Int32} {lv lc lv' lc' : Nat → Prop} {x x' : Int32} {s t : ds_S} (hp : p < P) (hA : dp_M P L p S lv lc x s (xP, xC, xA, xL, xO, xQ, xS, xK, dA, aA, po, st, jm, pl, op, el, so, ip, va, ov, oc)) (hB : dp_M P' L p' S' lv' lc' x' t (xP', xC', xA', xL', xO', xQ', xS', xK', dA', aA', po', st', jm', pl', op', el', so', ip', va', ov', oc')) (hR : ds_R L lc s t) (hx : ¬ x13 = 0 → ¬ s.1 < L ∧ ¬ t.1 < L) (hJ : J698 x2 (nI (rd + 1)) xP xC xA xL xO xQ xS xK dA aA po st jm pl op el so ip va ov oc xP' xC' xA' xL' xO' xQ' xS' xK' dA' aA' po' st' jm' pl' op' el' so' ip' va' ov' oc') : ∃ f, wL_law_788 post N xs J698 x2 (nI p) (nI rd) x13 kc ks xP xC xA xL xO xQ xS xK dA aA po st jm pl op el so ip va ov oc xP' xC' xA' xL' xO' xQ' xS' xK' dA' aA' po' st' jm' pl' op' el' so' ip' va' ov' oc' f 0 := by
  have okA : ds_ok s := hA.2.2.2.2.2.2.2.2.2.2.2.2.2.2.1
  have okB : ds_ok t := hB.2.2.2.2.2.2.2.2.2.2.2.2.2.2.1
  refine loop_0 (fun f i (_ : Unit) => wL_law_788 post N xs J698 x2 (nI p) (nI rd) x13 kc ks xP xC xA xL xO xQ xS xK dA aA po st jm pl op el so ip va ov oc xP' xC' xA' xL' xO' xQ' xS' xK' dA' aA' po' st' jm' pl' op' el' so' ip' va' ov' oc' f (nI i)) (fun _ _ => True) 4 () trivial ?_ ?_
  · intro f _ _
    exact br_t (nI_le (a := 4) (b := 4) (by omega) (by omega)) (nm_r (nI_1 rd) hJ)
  · intro f c _ hc _ ih
    obtain ⟨n, hn, en⟩ := okA c hc
    obtain ⟨m, hm, em⟩ := okB c hc
    have cn : ds_cn s.2.2.2 c = n := by
      unfold ds_cn
      rw [en, nI_clamp (by omega)]
    have cm : ds_cn t.2.2.2 c = m := by
      unfold ds_cn
      rw [em, nI_clamp (by omega)]
    refine br_f (nI_ge (b := 4) hc (by omega)) (dp_canM hp hc hA (fun l => br_f (by decide) (dp_cnt hc hA (dp_cnt hc hB ?_))) (fun _ => br_t rfl (nm_r (nI_1 c) (ih () trivial))))
    have R := hR c hc l
    rw [cn, cm] at R
    have he : ¬ x13 = 0 → nI n = nI m := fun z => by
      have := R.2 (hx z).1 (hx z).2
      rw [en, em] at this
      exact this
    rw [en, em]
    refine br_c (fun le => ?_) (fun le => ?_)
    · rw [nI_leI (by omega) (by omega)] at le
      exact dp_849 hc hA hB (by omega) (fun i hi => ⟨by omega, by omega, R.1 i (by omega) (by omega)⟩) he (ih () trivial)
    · rw [nI_leI (by omega) (by omega)] at le
      exact dp_849 hc hA hB (by omega) (fun i hi => ⟨by omega, by omega, R.1 i (by omega) (by omega)⟩) he (ih () trivial)
theorem dp_698 {post : Int32 → Prop} {N : Nat} {xs : Nat → Int32} {kc ks P P' L p p' : Nat} {S : Nat → Int32} {lv lc lv' lc' : Nat → Prop} {s t : ds_S} (hN : N ≤ 260) (h1 : post 1) (hp : p < P) (F : ∀ a b, ds_R L lc (ds_run S (dp_Tg S L) L a s) (ds_run S (dp_Tg S L) L b t)) : ∀ (d rd k a b : Nat) (x x' : Int32) (u v : St2), rd + d = 2 → k ≤ 6000 + 10 * rd → dp_M P L p S lv lc x (ds_run S (dp_Tg S L) L a s) u → dp_M P' L p' S lv' lc' x' (ds_run S (dp_Tg S L) L b t) v → wL_law_698 post N xs (nI p) kc ks (d + 1) (nI k) (nI rd) u.1 u.2.1 u.2.2.1 u.2.2.2.1 u.2.2.2.2.1 u.2.2.2.2.2.1 u.2.2.2.2.2.2.1 u.2.2.2.2.2.2.2.1 u.2.2.2.2.2.2.2.2.1 u.2.2.2.2.2.2.2.2.2.1 u.2.2.2.2.2.2.2.2.2.2.1 u.2.2.2.2.2.2.2.2.2.2.2.1 u.2.2.2.2.2.2.2.2.2.2.2.2.1 u.2.2.2.2.2.2.2.2.2.2.2.2.2.1 u.2.2.2.2.2.2.2.2.2.2.2.2.2.2.1 u.2.2.2.2.2.2.2.2.2.2.2.2.2.2.2.1 u.2.2.2.2.2.2.2.2.2.2.2.2.2.2.2.2.1 u.2.2.2.2.2.2.2.2.2.2.2.2.2.2.2.2.2.1 u.2.2.2.2.2.2.2.2.2.2.2.2.2.2.2.2.2.2.1 u.2.2.2.2.2.2.2.2.2.2.2.2.2.2.2.2.2.2.2.1 u.2.2.2.2.2.2.2.2.2.2.2.2.2.2.2.2.2.2.2.2 v.1 v.2.1 v.2.2.1 v.2.2.2.1 v.2.2.2.2.1 v.2.2.2.2.2.1 v.2.2.2.2.2.2.1 v.2.2.2.2.2.2.2.1 v.2.2.2.2.2.2.2.2.1 v.2.2.2.2.2.2.2.2.2.1 v.2.2.2.2.2.2.2.2.2.2.1 v.2.2.2.2.2.2.2.2.2.2.2.1 v.2.2.2.2.2.2.2.2.2.2.2.2.1 v.2.2.2.2.2.2.2.2.2.2.2.2.2.1 v.2.2.2.2.2.2.2.2.2.2.2.2.2.2.1 v.2.2.2.2.2.2.2.2.2.2.2.2.2.2.2.1 v.2.2.2.2.2.2.2.2.2.2.2.2.2.2.2.2.1 v.2.2.2.2.2.2.2.2.2.2.2.2.2.2.2.2.2.1 v.2.2.2.2.2.2.2.2.2.2.2.2.2.2.2.2.2.2.1 v.2.2.2.2.2.2.2.2.2.2.2.2.2.2.2.2.2.2.2.1 v.2.2.2.2.2.2.2.2.2.2.2.2.2.2.2.2.2.2.2.2 := by
  intro d
  induction d with
  | zero =>
    intro rd k a b x x' u v hd hk hA hB
    have e : rd = 2 := by omega
    subst e
    exact br_t (nI_le (a := 2) (b := 2) (by omega) (by omega)) h1
  | succ d ih =>
    intro rd k a b x x' u v hd hk hA hB
    refine br_f (nI_ge (b := 2) (by omega) (by omega)) (nm_r (nI_1 k) (dp_cell hN (by omega) (fun _ => dp_m 1000 (by omega) (by omega) (fun n hn => nm_r (show (1 : Int32) + nI n = nI (1 + n) from nI_add 1 n) (nm_r (nI_1 (k + 1)) (dp_cell hN (by omega) (fun _ => dp_m 1000 (by omega) (by omega) (fun m hm => nm_r (show (1 : Int32) + nI m = nI (1 + m) from nI_add 1 m) ?_))))))))
    refine dp_run (by omega) (by omega) hA (fun _ y s' u' es hA' => ?_)
    obtain ⟨xP, xC, xA, xL, xO, xQ, xS, xK, dA, aA, po, st, jm, pl, op, el, so, ip, va, ov, oc⟩ := u'
    refine dp_run (by omega) (by omega) hB (fun _ y' t' v' et hB' => ?_)
    obtain ⟨xP', xC', xA', xL', xO', xQ', xS', xK', dA', aA', po', st', jm', pl', op', el', so', ip', va', ov', oc'⟩ := v'
    rw [← ds_run_add] at es et
    subst es et
    have G := F (a + (1 + n)) (b + (1 + m))
    have nx := ih (rd + 1) (k + 2) (a + (1 + n)) (b + (1 + m)) y y' (xP, xC, xA, xL, xO, xQ, xS, xK, dA, aA, po, st, jm, pl, op, el, so, ip, va, ov, oc) (xP', xC', xA', xL', xO', xQ', xS', xK', dA', aA', po', st', jm', pl', op', el', so', ip', va', ov', oc') (by omega) (by omega) hA' hB'
    have hy : y = 3 → ¬ (ds_run S (dp_Tg S L) L (a + (1 + n)) s).1 < L := fun z => by
      rcases hA'.2.2.2.2.2.2.2.2.2.2.2.2.2.2.2 with w | w
      · rw [z] at w
        exact absurd w (by decide)
      · exact w.2
    have hy' : y' = 3 → ¬ (ds_run S (dp_Tg S L) L (b + (1 + m)) t).1 < L := fun z => by
      rcases hB'.2.2.2.2.2.2.2.2.2.2.2.2.2.2.2 with w | w
      · rw [z] at w
        exact absurd w (by decide)
      · exact w.2
    refine dp_stat hA' (br_c (fun e1 => dp_stat hB' (br_c (fun e2 => ?_) (fun e2 => ?_))) (fun e1 => ?_))
    · exact dp_788 hp hA' hB' G (fun _ => ⟨hy e1, hy' e2⟩) nx
    · exact dp_788 hp hA' hB' G (fun z => absurd rfl z) nx
    · exact dp_788 hp hA' hB' G (fun z => absurd rfl z) nx
end
