/-! p18: inputs, checks, the building of the program -/
section
theorem ds_lc4 {P : Nat} {A po : Nat → Int32} {p : Nat} : ∀ c, ds_lc P A po p c → c < 4 := fun _ h => h.1
theorem dp_s3 (r : Nat) : ∃ y : Int32, nI r - 3 = y := ⟨_, rfl⟩
theorem dp_593 {post : Int32 → Prop} {N : Nat} {xs : Nat → Int32} {kc ks P P' L p p' : Nat} {S : Nat → Int32} {lv lc lv' lc' : Nat → Prop} (hN : N ≤ 260) (h1 : post 1) (hp : p < P) (hl : ∀ x, lv x → x < 16) (hl4 : ∀ c, lc c → c < 4) (F : ds_F S (dp_Tg S L) L lv lc) : ∀ (d j k : Nat) (ia ib : Nat → Int32) (u v : St2), j + d = 6 → k ≤ 5000 + 10 * j → (∀ x, lv x → ia x = ib x) → dp_I P L p S lv lc ia u → dp_I P' L p' S lv' lc' ib v → wL_law_593 post N xs (nI p) kc ks (d + 1) (nI k) (nI j) u.1 u.2.1 u.2.2.1 u.2.2.2.1 u.2.2.2.2.1 u.2.2.2.2.2.1 u.2.2.2.2.2.2.1 u.2.2.2.2.2.2.2.1 u.2.2.2.2.2.2.2.2.1 u.2.2.2.2.2.2.2.2.2.1 u.2.2.2.2.2.2.2.2.2.2.1 u.2.2.2.2.2.2.2.2.2.2.2.1 u.2.2.2.2.2.2.2.2.2.2.2.2.1 u.2.2.2.2.2.2.2.2.2.2.2.2.2.1 u.2.2.2.2.2.2.2.2.2.2.2.2.2.2.1 u.2.2.2.2.2.2.2.2.2.2.2.2.2.2.2.1 u.2.2.2.2.2.2.2.2.2.2.2.2.2.2.2.2.1 u.2.2.2.2.2.2.2.2.2.2.2.2.2.2.2.2.2.1 u.2.2.2.2.2.2.2.2.2.2.2.2.2.2.2.2.2.2.1 u.2.2.2.2.2.2.2.2.2.2.2.2.2.2.2.2.2.2.2.1 u.2.2.2.2.2.2.2.2.2.2.2.2.2.2.2.2.2.2.2.2 v.1 v.2.1 v.2.2.1 v.2.2.2.1 v.2.2.2.2.1 v.2.2.2.2.2.1 v.2.2.2.2.2.2.1 v.2.2.2.2.2.2.2.1 v.2.2.2.2.2.2.2.2.1 v.2.2.2.2.2.2.2.2.2.1 v.2.2.2.2.2.2.2.2.2.2.1 v.2.2.2.2.2.2.2.2.2.2.2.1 v.2.2.2.2.2.2.2.2.2.2.2.2.1 v.2.2.2.2.2.2.2.2.2.2.2.2.2.1 v.2.2.2.2.2.2.2.2.2.2.2.2.2.2.1 v.2.2.2.2.2.2.2.2.2.2.2.2.2.2.2.1 v.2.2.2.2.2.2.2.2.2.2.2.2.2.2.2.2.1 v.2.2.2.2.2.2.2.2.2.2.2.2.2.2.2.2.2.1 v.2.2.2.2.2.2.2.2.2.2.2.2.2.2.2.2.2.2.1 v.2.2.2.2.2.2.2.2.2.2.2.2.2.2.2.2.2.2.2.1 v.2.2.2.2.2.2.2.2.2.2.2.2.2.2.2.2.2.2.2.2 := by
  intro d
  induction d with
  | zero =>
    intro j k ia ib u v hd hk he hA hB
    have e : j = 6 := by omega
    subst e
    refine br_t (nI_le (a := 6) (b := 6) (by omega) (by omega)) (dp_start hA (fun s u' s1 s2 s3 hA' => ?_))
    obtain ⟨xP, xC, xA, xL, xO, xQ, xS, xK, dA, aA, po, st, jm, pl, op, el, so, ip, va, ov, oc⟩ := u'
    refine br_f (by decide) (dp_start hB (fun t v' t1 t2 t3 hB' => ?_))
    obtain ⟨xP', xC', xA', xL', xO', xQ', xS', xK', dA', aA', po', st', jm', pl', op', el', so', ip', va', ov', oc'⟩ := v'
    have oks : ds_ok s := hA'.2.2.2.2.2.2.2.2.2.2.2.2.2.2.1
    have okt : ds_ok t := hB'.2.2.2.2.2.2.2.2.2.2.2.2.2.2.1
    have le : ds_LE lv lc s t := by
      refine ⟨fun x hx => ?_, fun c hc hl => ⟨?_, fun i hi => ?_⟩⟩
      · rw [s2 x (hl x hx), t2 x (hl x hx)]
        exact he x hx
      · rw [s3 c hc, t3 c hc]
      · unfold ds_cn at hi
        rw [s3 c hc, show (0 : Int32).toNatClampNeg = 0 from by decide] at hi
        exact absurd hi (by omega)
    exact br_f (by decide) ⟨2 + 1, dp_698 hN h1 hp (fun a b => ds_main hl4 F (a + b) a b s t (Nat.le_refl _) oks okt (s1.trans t1.symm) le) 2 0 k 0 0 2 2 (xP, xC, xA, xL, xO, xQ, xS, xK, dA, aA, po, st, jm, pl, op, el, so, ip, va, ov, oc) (xP', xC', xA', xL', xO', xQ', xS', xK', dA', aA', po', st', jm', pl', op', el', so', ip', va', ov', oc') (by omega) (by omega) hA' hB'⟩
  | succ d ih =>
    intro j k ia ib u v hd hk he hA hB
    have fin : ∀ (k' : Nat) (y z : Int32), k' ≤ 5000 + 10 * (j + 1) → (lv j → y = z) → wL_law_649 post N xs (wL_law_593 post N xs (nI p) kc ks (d + 1)) (nI k') (nI p) (nI j) y z kc ks u.1 u.2.1 u.2.2.1 u.2.2.2.1 u.2.2.2.2.1 u.2.2.2.2.2.1 u.2.2.2.2.2.2.1 u.2.2.2.2.2.2.2.1 u.2.2.2.2.2.2.2.2.1 u.2.2.2.2.2.2.2.2.2.1 u.2.2.2.2.2.2.2.2.2.2.1 u.2.2.2.2.2.2.2.2.2.2.2.1 u.2.2.2.2.2.2.2.2.2.2.2.2.1 u.2.2.2.2.2.2.2.2.2.2.2.2.2.1 u.2.2.2.2.2.2.2.2.2.2.2.2.2.2.1 u.2.2.2.2.2.2.2.2.2.2.2.2.2.2.2.1 u.2.2.2.2.2.2.2.2.2.2.2.2.2.2.2.2.1 u.2.2.2.2.2.2.2.2.2.2.2.2.2.2.2.2.2.1 u.2.2.2.2.2.2.2.2.2.2.2.2.2.2.2.2.2.2.1 u.2.2.2.2.2.2.2.2.2.2.2.2.2.2.2.2.2.2.2.1 u.2.2.2.2.2.2.2.2.2.2.2.2.2.2.2.2.2.2.2.2 v.1 v.2.1 v.2.2.1 v.2.2.2.1 v.2.2.2.2.1 v.2.2.2.2.2.1 v.2.2.2.2.2.2.1 v.2.2.2.2.2.2.2.1 v.2.2.2.2.2.2.2.2.1 v.2.2.2.2.2.2.2.2.2.1 v.2.2.2.2.2.2.2.2.2.2.1 v.2.2.2.2.2.2.2.2.2.2.2.1 v.2.2.2.2.2.2.2.2.2.2.2.2.1 v.2.2.2.2.2.2.2.2.2.2.2.2.2.1 v.2.2.2.2.2.2.2.2.2.2.2.2.2.2.1 v.2.2.2.2.2.2.2.2.2.2.2.2.2.2.2.1 v.2.2.2.2.2.2.2.2.2.2.2.2.2.2.2.2.1 v.2.2.2.2.2.2.2.2.2.2.2.2.2.2.2.2.2.1 v.2.2.2.2.2.2.2.2.2.2.2.2.2.2.2.2.2.2.1 v.2.2.2.2.2.2.2.2.2.2.2.2.2.2.2.2.2.2.2.1 v.2.2.2.2.2.2.2.2.2.2.2.2.2.2.2.2.2.2.2.2 := by
      intro k' y z hk' hyz
      refine dp_setI (by omega) hA (fun _ u' hA' => ?_)
      obtain ⟨xP, xC, xA, xL, xO, xQ, xS, xK, dA, aA, po, st, jm, pl, op, el, so, ip, va, ov, oc⟩ := u'
      refine dp_setI (by omega) hB (fun _ v' hB' => ?_)
      obtain ⟨xP', xC', xA', xL', xO', xQ', xS', xK', dA', aA', po', st', jm', pl', op', el', so', ip', va', ov', oc'⟩ := v'
      refine nm_r (nI_1 j) (ih (j + 1) k' (upd ia j y) (upd ib j z) (xP, xC, xA, xL, xO, xQ, xS, xK, dA, aA, po, st, jm, pl, op, el, so, ip, va, ov, oc) (xP', xC', xA', xL', xO', xQ', xS', xK', dA', aA', po', st', jm', pl', op', el', so', ip', va', ov', oc') (by omega) hk' (fun x hx => ?_) hA' hB')
      by_cases e : x = j
      · subst e
        rw [pk_us, pk_us]
        exact hyz hx
      · rw [pk_un e, pk_un e]
        exact he x hx
    refine br_f (nI_ge (b := 6) (by omega) (by omega)) (nm_r (nI_1 k) (dp_cell hN (by omega) (fun _ => dp_m 7 (by omega) (by omega) (fun r hr => nm_e (dp_canI hp (by omega) hA (fun l => br_f (by decide) (fin _ _ _ (by omega) (fun _ => rfl))) (fun l => br_t rfl (nm_r (nI_1 (k + 1)) (dp_cell hN (by omega) (fun _ => dp_m 7 (by omega) (by omega) (fun r' hr' => fin _ _ _ (by omega) (fun z => absurd z l)))))))))))
theorem dp_572 {post : Int32 → Prop} {N : Nat} {xs : Nat → Int32} {kc ks P L p k : Nat} {S : Nat → Int32} (hN : N ≤ 260) (h1 : post 1) (hp : p < P) (hk : k ≤ 4000) {u v : St2} (P8 : P ≤ 8) (hA : dp_X P L S u) (hB : dp_X P L S v) : wL_law_572 post N xs (nI k) (nI p) kc ks u.1 u.2.1 u.2.2.1 u.2.2.2.1 u.2.2.2.2.1 u.2.2.2.2.2.1 u.2.2.2.2.2.2.1 u.2.2.2.2.2.2.2.1 u.2.2.2.2.2.2.2.2.1 u.2.2.2.2.2.2.2.2.2.1 u.2.2.2.2.2.2.2.2.2.2.1 u.2.2.2.2.2.2.2.2.2.2.2.1 u.2.2.2.2.2.2.2.2.2.2.2.2.1 u.2.2.2.2.2.2.2.2.2.2.2.2.2.1 u.2.2.2.2.2.2.2.2.2.2.2.2.2.2.1 u.2.2.2.2.2.2.2.2.2.2.2.2.2.2.2.1 u.2.2.2.2.2.2.2.2.2.2.2.2.2.2.2.2.1 u.2.2.2.2.2.2.2.2.2.2.2.2.2.2.2.2.2.1 u.2.2.2.2.2.2.2.2.2.2.2.2.2.2.2.2.2.2.1 u.2.2.2.2.2.2.2.2.2.2.2.2.2.2.2.2.2.2.2.1 u.2.2.2.2.2.2.2.2.2.2.2.2.2.2.2.2.2.2.2.2 v.1 v.2.1 v.2.2.1 v.2.2.2.1 v.2.2.2.2.1 v.2.2.2.2.2.1 v.2.2.2.2.2.2.1 v.2.2.2.2.2.2.2.1 v.2.2.2.2.2.2.2.2.1 v.2.2.2.2.2.2.2.2.2.1 v.2.2.2.2.2.2.2.2.2.2.1 v.2.2.2.2.2.2.2.2.2.2.2.1 v.2.2.2.2.2.2.2.2.2.2.2.2.1 v.2.2.2.2.2.2.2.2.2.2.2.2.2.1 v.2.2.2.2.2.2.2.2.2.2.2.2.2.2.1 v.2.2.2.2.2.2.2.2.2.2.2.2.2.2.2.1 v.2.2.2.2.2.2.2.2.2.2.2.2.2.2.2.2.1 v.2.2.2.2.2.2.2.2.2.2.2.2.2.2.2.2.2.1 v.2.2.2.2.2.2.2.2.2.2.2.2.2.2.2.2.2.2.1 v.2.2.2.2.2.2.2.2.2.2.2.2.2.2.2.2.2.2.2.1 v.2.2.2.2.2.2.2.2.2.2.2.2.2.2.2.2.2.2.2.2 := by
  refine dp_check (p := p) (by omega) hA (fun r u' hA' cA => ?_)
  obtain ⟨xP, xC, xA, xL, xO, xQ, xS, xK, dA, aA, po, st, jm, pl, op, el, so, ip, va, ov, oc⟩ := u'
  refine br_c (fun z => dp_check (p := p) (by omega) hB (fun r' v' hB' cB => ?_)) (fun _ => h1)
  obtain ⟨xP', xC', xA', xL', xO', xQ', xS', xK', dA', aA', po', st', jm', pl', op', el', so', ip', va', ov', oc'⟩ := v'
  refine br_c (fun z' => ?_) (fun _ => h1)
  obtain ⟨lv, lc, gA⟩ := cA z
  obtain ⟨lv', lc', gB⟩ := cB z'
  have iA := dp_I_of hA' gA
  have iB := dp_I_of hB' gB
  have hl : ∀ x, lv x → x < 16 := by
    obtain ⟨_, _, e, _⟩ := gA
    rw [e]
    exact fun x hx => hx.1
  have hl4 : ∀ c, lc c → c < 4 := by
    obtain ⟨_, _, _, e, _⟩ := gA
    rw [e]
    exact fun x hx => hx.1
  have F : ds_F S (dp_Tg S L) L lv lc := gA.2.2.2.2
  exact ⟨6 + 1, dp_593 hN h1 hp hl hl4 F 6 0 k (fun _ => 0) (fun _ => 0) (xP, xC, xA, xL, xO, xQ, xS, xK, dA, aA, po, st, jm, pl, op, el, so, ip, va, ov, oc) (xP', xC', xA', xL', xO', xQ', xS', xK', dA', aA', po', st', jm', pl', op', el', so', ip', va', ov', oc') (by omega) (by omega) (fun _ _ => rfl) iA iB⟩
theorem dp_end10 : dl_ok 10 0 0 0 := Or.inr (Or.inr (Or.inr (Or.inr (Or.inr (Or.inl (Or.inr rfl))))))
theorem dp_526 {post : Int32 → Prop} {N : Nat} {xs : Nat → Int32} {kc ks P p k : Nat} (hN : N ≤ 260) (h1 : post 1) (hp : p < P) (hk : k ≤ 4000) (P8 : P ≤ 8) : ∀ (d i L : Nat) (S : Nat → Int32) (u v : St2), i + d = 9 → L ≤ 40 + i → dp_X P L S u → dp_X P L S v → wL_law_526 post N xs (nI k) (nI p) kc ks (d + 1) (nI i) u.1 u.2.1 u.2.2.1 u.2.2.2.1 u.2.2.2.2.1 u.2.2.2.2.2.1 u.2.2.2.2.2.2.1 u.2.2.2.2.2.2.2.1 u.2.2.2.2.2.2.2.2.1 u.2.2.2.2.2.2.2.2.2.1 u.2.2.2.2.2.2.2.2.2.2.1 u.2.2.2.2.2.2.2.2.2.2.2.1 u.2.2.2.2.2.2.2.2.2.2.2.2.1 u.2.2.2.2.2.2.2.2.2.2.2.2.2.1 u.2.2.2.2.2.2.2.2.2.2.2.2.2.2.1 u.2.2.2.2.2.2.2.2.2.2.2.2.2.2.2.1 u.2.2.2.2.2.2.2.2.2.2.2.2.2.2.2.2.1 u.2.2.2.2.2.2.2.2.2.2.2.2.2.2.2.2.2.1 u.2.2.2.2.2.2.2.2.2.2.2.2.2.2.2.2.2.2.1 u.2.2.2.2.2.2.2.2.2.2.2.2.2.2.2.2.2.2.2.1 u.2.2.2.2.2.2.2.2.2.2.2.2.2.2.2.2.2.2.2.2 v.1 v.2.1 v.2.2.1 v.2.2.2.1 v.2.2.2.2.1 v.2.2.2.2.2.1 v.2.2.2.2.2.2.1 v.2.2.2.2.2.2.2.1 v.2.2.2.2.2.2.2.2.1 v.2.2.2.2.2.2.2.2.2.1 v.2.2.2.2.2.2.2.2.2.2.1 v.2.2.2.2.2.2.2.2.2.2.2.1 v.2.2.2.2.2.2.2.2.2.2.2.2.1 v.2.2.2.2.2.2.2.2.2.2.2.2.2.1 v.2.2.2.2.2.2.2.2.2.2.2.2.2.2.1 v.2.2.2.2.2.2.2.2.2.2.2.2.2.2.2.1 v.2.2.2.2.2.2.2.2.2.2.2.2.2.2.2.2.1 v.2.2.2.2.2.2.2.2.2.2.2.2.2.2.2.2.2.1 v.2.2.2.2.2.2.2.2.2.2.2.2.2.2.2.2.2.2.1 v.2.2.2.2.2.2.2.2.2.2.2.2.2.2.2.2.2.2.2.1 v.2.2.2.2.2.2.2.2.2.2.2.2.2.2.2.2.2.2.2.2 := by
  intro d
  induction d with
  | zero =>
    intro i L S u v hd hL hA hB
    have e : i = 9 := by omega
    subst e
    exact br_t (nI_le (a := 9) (b := 9) (by omega) (by omega)) (dp_572 hN h1 hp hk P8 hA hB)
  | succ d ih =>
    intro i L S u v hd hL hA hB
    refine br_f (nI_ge (b := 9) (by omega) (by omega)) (dp_check (p := p) (by omega) hA (fun r u' hA' _ => ?_))
    obtain ⟨xP, xC, xA, xL, xO, xQ, xS, xK, dA, aA, po, st, jm, pl, op, el, so, ip, va, ov, oc⟩ := u'
    refine br_c (fun _ => dp_572 (u := (xP, xC, xA, xL, xO, xQ, xS, xK, dA, aA, po, st, jm, pl, op, el, so, ip, va, ov, oc)) hN h1 hp hk P8 hA' hB) (fun _ => dp_add hA' (by omega) dp_end10 (fun u2 hA2 => ?_))
    obtain ⟨xP1, xC1, xA1, xL1, xO1, xQ1, xS1, xK1, dA1, aA1, po1, st1, jm1, pl1, op1, el1, so1, ip1, va1, ov1, oc1⟩ := u2
    refine dp_add hB (by omega) dp_end10 (fun v2 hB2 => ?_)
    obtain ⟨xP', xC', xA', xL', xO', xQ', xS', xK', dA', aA', po', st', jm', pl', op', el', so', ip', va', ov', oc'⟩ := v2
    exact nm_r (nI_1 i) (ih (i + 1) (L + 1) _ (xP1, xC1, xA1, xL1, xO1, xQ1, xS1, xK1, dA1, aA1, po1, st1, jm1, pl1, op1, el1, so1, ip1, va1, ov1, oc1) (xP', xC', xA', xL', xO', xQ', xS', xK', dA', aA', po', st', jm', pl', op', el', so', ip', va', ov', oc') (by omega) (by omega) hA2 hB2)
theorem dp_466 {post : Int32 → Prop} {N : Nat} {xs : Nat → Int32} {J285 : Int32 → Int32 → Int32 → Int32 → Int32 → Int32 → Int32 → Int32 → Int32 → Int32 → (Nat → Int32) → (Nat → Int32) → (Nat → Int32) → (Nat → Int32) → (Nat → Int32) → (Nat → Int32) → (Nat → Int32) → (Nat → Int32) → (Nat → Int32) → (Nat → Int32) → (Nat → Int32) → (Nat → Int32) → (Nat → Int32) → Int32 → Int32 → Int32 → Int32 → Int32 → Int32 → Int32 → Int32 → (Nat → Int32) → (Nat → Int32) → (Nat → Int32) → (Nat → Int32) → (Nat → Int32) → (Nat → Int32) → (Nat → Int32) → (Nat → Int32) → (Nat → Int32) → (Nat → Int32) → (Nat → Int32) → (Nat → Int32) → (Nat → Int32) → Prop} {x2 x6 x9 : Int32} {kc ks P L i : Nat} {S : Nat → Int32} {v : St2} (hB : dp_X P L S v) (hL : L ≤ 64) (hJ : ∀ u', dp_X P L S u' → J285 x2 (nI (i + 1)) u'.1 u'.2.1 u'.2.2.1 u'.2.2.2.1 u'.2.2.2.2.1 u'.2.2.2.2.2.1 u'.2.2.2.2.2.2.1 u'.2.2.2.2.2.2.2.1 u'.2.2.2.2.2.2.2.2.1 u'.2.2.2.2.2.2.2.2.2.1 u'.2.2.2.2.2.2.2.2.2.2.1 u'.2.2.2.2.2.2.2.2.2.2.2.1 u'.2.2.2.2.2.2.2.2.2.2.2.2.1 u'.2.2.2.2.2.2.2.2.2.2.2.2.2.1 u'.2.2.2.2.2.2.2.2.2.2.2.2.2.2.1 u'.2.2.2.2.2.2.2.2.2.2.2.2.2.2.2.1 u'.2.2.2.2.2.2.2.2.2.2.2.2.2.2.2.2.1 u'.2.2.2.2.2.2.2.2.2.2.2.2.2.2.2.2.2.1 u'.2.2.2.2.2.2.2.2.2.2.2.2.2.2.2.2.2.2.1 u'.2.2.2.2.2.2.2.2.2.2.2.2.2.2.2.2.2.2.2.1 u'.2.2.2.2.2.2.2.2.2.2.2.2.2.2.2.2.2.2.2.2 v.1 v.2.1 v.2.2.1 v.2.2.2.1 v.2.2.2.2.1 v.2.2.2.2.2.1 v.2.2.2.2.2.2.1 v.2.2.2.2.2.2.2.1 v.2.2.2.2.2.2.2.2.1 v.2.2.2.2.2.2.2.2.2.1 v.2.2.2.2.2.2.2.2.2.2.1 v.2.2.2.2.2.2.2.2.2.2.2.1 v.2.2.2.2.2.2.2.2.2.2.2.2.1 v.2.2.2.2.2.2.2.2.2.2.2.2.2.1 v.2.2.2.2.2.2.2.2.2.2.2.2.2.2.1 v.2.2.2.2.2.2.2.2.2.2.2.2.2.2.2.1 v.2.2.2.2.2.2.2.2.2.2.2.2.2.2.2.2.1 v.2.2.2.2.2.2.2.2.2.2.2.2.2.2.2.2.2.1 v.2.2.2.2.2.2.2.2.2.2.2.2.2.2.2.2.2.2.1 v.2.2.2.2.2.2.2.2.2.2.2.2.2.2.2.2.2.2.2.1 v.2.2.2.2.2.2.2.2.2.2.2.2.2.2.2.2.2.2.2.2) : ∀ (d j : Nat) (u : St2), j + d = L → dp_X P j S u → wL_law_466 post N xs J285 x2 x6 x9 (nI i) (nI L) kc ks (d + 1) (nI j) u.1 u.2.1 u.2.2.1 u.2.2.2.1 u.2.2.2.2.1 u.2.2.2.2.2.1 u.2.2.2.2.2.2.1 u.2.2.2.2.2.2.2.1 u.2.2.2.2.2.2.2.2.1 u.2.2.2.2.2.2.2.2.2.1 u.2.2.2.2.2.2.2.2.2.2.1 u.2.2.2.2.2.2.2.2.2.2.2.1 u.2.2.2.2.2.2.2.2.2.2.2.2.1 u.2.2.2.2.2.2.2.2.2.2.2.2.2.1 u.2.2.2.2.2.2.2.2.2.2.2.2.2.2.1 u.2.2.2.2.2.2.2.2.2.2.2.2.2.2.2.1 u.2.2.2.2.2.2.2.2.2.2.2.2.2.2.2.2.1 u.2.2.2.2.2.2.2.2.2.2.2.2.2.2.2.2.2.1 u.2.2.2.2.2.2.2.2.2.2.2.2.2.2.2.2.2.2.1 u.2.2.2.2.2.2.2.2.2.2.2.2.2.2.2.2.2.2.2.1 u.2.2.2.2.2.2.2.2.2.2.2.2.2.2.2.2.2.2.2.2 v.1 v.2.1 v.2.2.1 v.2.2.2.1 v.2.2.2.2.1 v.2.2.2.2.2.1 v.2.2.2.2.2.2.1 v.2.2.2.2.2.2.2.1 v.2.2.2.2.2.2.2.2.1 v.2.2.2.2.2.2.2.2.2.1 v.2.2.2.2.2.2.2.2.2.2.1 v.2.2.2.2.2.2.2.2.2.2.2.1 v.2.2.2.2.2.2.2.2.2.2.2.2.1 v.2.2.2.2.2.2.2.2.2.2.2.2.2.1 v.2.2.2.2.2.2.2.2.2.2.2.2.2.2.1 v.2.2.2.2.2.2.2.2.2.2.2.2.2.2.2.1 v.2.2.2.2.2.2.2.2.2.2.2.2.2.2.2.2.1 v.2.2.2.2.2.2.2.2.2.2.2.2.2.2.2.2.2.1 v.2.2.2.2.2.2.2.2.2.2.2.2.2.2.2.2.2.2.1 v.2.2.2.2.2.2.2.2.2.2.2.2.2.2.2.2.2.2.2.1 v.2.2.2.2.2.2.2.2.2.2.2.2.2.2.2.2.2.2.2.2 := by
  intro d
  induction d with
  | zero =>
    intro j u hd hA
    have e : j = L := by omega
    subst e
    exact br_t (nI_le (Nat.le_refl _) (by omega)) (nm_r (nI_1 i) (hJ u hA))
  | succ d ih =>
    intro j u hd hA
    have hj : j < L := by omega
    have okj : dp_ok (S (j * 4 + 0)) (S (j * 4 + 1)) (S (j * 4 + 2)) (S (j * 4 + 3)) := by
      obtain ⟨xP, xC, xA, xL, xO, xQ, xS, xK, dA, aA, po, st, jm, pl, op, el, so, ip, va, ov, oc⟩ := v
      exact hB.2.2.2.2.2.2.2.2 j hj
    obtain ⟨ok, n1, n2, n3⟩ := dp_ok_n okj
    refine br_f (nI_ge hj (by omega)) (dp_get (f := 0) hB hj (by omega) (dp_get (f := 1) hB hj (by omega) (dp_get (f := 2) hB hj (by omega) (dp_get (f := 3) hB hj (by omega) (dp_add hA (by omega) ok (fun u' hA' => ?_))))))
    obtain ⟨xP1, xC1, xA1, xL1, xO1, xQ1, xS1, xK1, dA1, aA1, po1, st1, jm1, pl1, op1, el1, so1, ip1, va1, ov1, oc1⟩ := u'
    refine nm_r (nI_1 j) (ih (j + 1) (xP1, xC1, xA1, xL1, xO1, xQ1, xS1, xK1, dA1, aA1, po1, st1, jm1, pl1, op1, el1, so1, ip1, va1, ov1, oc1) (by omega) (dp_X_c hA' (fun x hx => ?_)))
    rw [n1, n2, n3]
    obtain ⟨t0, t1, t2, t3⟩ := dl_w0 S j (S (j * 4 + 0)) (S (j * 4 + 1)) (S (j * 4 + 2)) (S (j * 4 + 3))
    rcases Nat.lt_or_ge x (j * 4) with z | z
    · exact dl_w1 z
    · have e : x = j * 4 ∨ x = j * 4 + 1 ∨ x = j * 4 + 2 ∨ x = j * 4 + 3 := by omega
      rcases e with e | e | e | e <;> subst e
      · exact t0
      · exact t1
      · exact t2
      · exact t3
theorem dp_381 {post : Int32 → Prop} {N : Nat} {xs : Nat → Int32} {J285 : Int32 → Int32 → Int32 → Int32 → Int32 → Int32 → Int32 → Int32 → Int32 → Int32 → (Nat → Int32) → (Nat → Int32) → (Nat → Int32) → (Nat → Int32) → (Nat → Int32) → (Nat → Int32) → (Nat → Int32) → (Nat → Int32) → (Nat → Int32) → (Nat → Int32) → (Nat → Int32) → (Nat → Int32) → (Nat → Int32) → Int32 → Int32 → Int32 → Int32 → Int32 → Int32 → Int32 → Int32 → (Nat → Int32) → (Nat → Int32) → (Nat → Int32) → (Nat → Int32) → (Nat → Int32) → (Nat → Int32) → (Nat → Int32) → (Nat → Int32) → (Nat → Int32) → (Nat → Int32) → (Nat → Int32) → (Nat → Int32) → (Nat → Int32) → Prop} {x2 x6 x9 x11 x12 x13 x14 : Int32} {kc ks P L i : Nat} {S : Nat → Int32} {u v : St2} (hA : dp_X P L S u) (hB : dp_X P L S v) (P8 : P ≤ 8) (hL : L < 64) (ok : dl_ok x11 x12 x13 x14) (hJ : ∀ (L' : Nat) (S' : Nat → Int32) (u' v' : St2), L' ≤ L + 1 → dp_X P L' S' u' → dp_X P L' S' v' → J285 x2 (nI (i + 1)) u'.1 u'.2.1 u'.2.2.1 u'.2.2.2.1 u'.2.2.2.2.1 u'.2.2.2.2.2.1 u'.2.2.2.2.2.2.1 u'.2.2.2.2.2.2.2.1 u'.2.2.2.2.2.2.2.2.1 u'.2.2.2.2.2.2.2.2.2.1 u'.2.2.2.2.2.2.2.2.2.2.1 u'.2.2.2.2.2.2.2.2.2.2.2.1 u'.2.2.2.2.2.2.2.2.2.2.2.2.1 u'.2.2.2.2.2.2.2.2.2.2.2.2.2.1 u'.2.2.2.2.2.2.2.2.2.2.2.2.2.2.1 u'.2.2.2.2.2.2.2.2.2.2.2.2.2.2.2.1 u'.2.2.2.2.2.2.2.2.2.2.2.2.2.2.2.2.1 u'.2.2.2.2.2.2.2.2.2.2.2.2.2.2.2.2.2.1 u'.2.2.2.2.2.2.2.2.2.2.2.2.2.2.2.2.2.2.1 u'.2.2.2.2.2.2.2.2.2.2.2.2.2.2.2.2.2.2.2.1 u'.2.2.2.2.2.2.2.2.2.2.2.2.2.2.2.2.2.2.2.2 v'.1 v'.2.1 v'.2.2.1 v'.2.2.2.1 v'.2.2.2.2.1 v'.2.2.2.2.2.1 v'.2.2.2.2.2.2.1 v'.2.2.2.2.2.2.2.1 v'.2.2.2.2.2.2.2.2.1 v'.2.2.2.2.2.2.2.2.2.1 v'.2.2.2.2.2.2.2.2.2.2.1 v'.2.2.2.2.2.2.2.2.2.2.2.1 v'.2.2.2.2.2.2.2.2.2.2.2.2.1 v'.2.2.2.2.2.2.2.2.2.2.2.2.2.1 v'.2.2.2.2.2.2.2.2.2.2.2.2.2.2.1 v'.2.2.2.2.2.2.2.2.2.2.2.2.2.2.2.1 v'.2.2.2.2.2.2.2.2.2.2.2.2.2.2.2.2.1 v'.2.2.2.2.2.2.2.2.2.2.2.2.2.2.2.2.2.1 v'.2.2.2.2.2.2.2.2.2.2.2.2.2.2.2.2.2.2.1 v'.2.2.2.2.2.2.2.2.2.2.2.2.2.2.2.2.2.2.2.1 v'.2.2.2.2.2.2.2.2.2.2.2.2.2.2.2.2.2.2.2.2) : wL_law_381 post N xs J285 x2 x6 x9 (nI i) x11 x12 x13 x14 kc ks u.1 u.2.1 u.2.2.1 u.2.2.2.1 u.2.2.2.2.1 u.2.2.2.2.2.1 u.2.2.2.2.2.2.1 u.2.2.2.2.2.2.2.1 u.2.2.2.2.2.2.2.2.1 u.2.2.2.2.2.2.2.2.2.1 u.2.2.2.2.2.2.2.2.2.2.1 u.2.2.2.2.2.2.2.2.2.2.2.1 u.2.2.2.2.2.2.2.2.2.2.2.2.1 u.2.2.2.2.2.2.2.2.2.2.2.2.2.1 u.2.2.2.2.2.2.2.2.2.2.2.2.2.2.1 u.2.2.2.2.2.2.2.2.2.2.2.2.2.2.2.1 u.2.2.2.2.2.2.2.2.2.2.2.2.2.2.2.2.1 u.2.2.2.2.2.2.2.2.2.2.2.2.2.2.2.2.2.1 u.2.2.2.2.2.2.2.2.2.2.2.2.2.2.2.2.2.2.1 u.2.2.2.2.2.2.2.2.2.2.2.2.2.2.2.2.2.2.2.1 u.2.2.2.2.2.2.2.2.2.2.2.2.2.2.2.2.2.2.2.2 v.1 v.2.1 v.2.2.1 v.2.2.2.1 v.2.2.2.2.1 v.2.2.2.2.2.1 v.2.2.2.2.2.2.1 v.2.2.2.2.2.2.2.1 v.2.2.2.2.2.2.2.2.1 v.2.2.2.2.2.2.2.2.2.1 v.2.2.2.2.2.2.2.2.2.2.1 v.2.2.2.2.2.2.2.2.2.2.2.1 v.2.2.2.2.2.2.2.2.2.2.2.2.1 v.2.2.2.2.2.2.2.2.2.2.2.2.2.1 v.2.2.2.2.2.2.2.2.2.2.2.2.2.2.1 v.2.2.2.2.2.2.2.2.2.2.2.2.2.2.2.1 v.2.2.2.2.2.2.2.2.2.2.2.2.2.2.2.2.1 v.2.2.2.2.2.2.2.2.2.2.2.2.2.2.2.2.2.1 v.2.2.2.2.2.2.2.2.2.2.2.2.2.2.2.2.2.2.1 v.2.2.2.2.2.2.2.2.2.2.2.2.2.2.2.2.2.2.2.1 v.2.2.2.2.2.2.2.2.2.2.2.2.2.2.2.2.2.2.2.2 := by
  refine dp_add hA hL ok (fun u1 hA1 => ?_)
  obtain ⟨xP, xC, xA, xL, xO, xQ, xS, xK, dA, aA, po, st, jm, pl, op, el, so, ip, va, ov, oc⟩ := u1
  refine br_t (nI_pos' (by omega)) (dp_len hA1 (dp_check (p := 0) (by omega) hA1 (fun r u2 hA2 _ => ?_)))
  obtain ⟨xP1, xC1, xA1, xL1, xO1, xQ1, xS1, xK1, dA1, aA1, po1, st1, jm1, pl1, op1, el1, so1, ip1, va1, ov1, oc1⟩ := u2
  have fin : wL_law_432 post N xs J285 x2 x6 x9 (nI i) x11 x12 x13 x14 kc ks xP1 xC1 xA1 xL1 xO1 xQ1 xS1 xK1 dA1 aA1 po1 st1 jm1 pl1 op1 el1 so1 ip1 va1 ov1 oc1 v.1 v.2.1 v.2.2.1 v.2.2.2.1 v.2.2.2.2.1 v.2.2.2.2.2.1 v.2.2.2.2.2.2.1 v.2.2.2.2.2.2.2.1 v.2.2.2.2.2.2.2.2.1 v.2.2.2.2.2.2.2.2.2.1 v.2.2.2.2.2.2.2.2.2.2.1 v.2.2.2.2.2.2.2.2.2.2.2.1 v.2.2.2.2.2.2.2.2.2.2.2.2.1 v.2.2.2.2.2.2.2.2.2.2.2.2.2.1 v.2.2.2.2.2.2.2.2.2.2.2.2.2.2.1 v.2.2.2.2.2.2.2.2.2.2.2.2.2.2.2.1 v.2.2.2.2.2.2.2.2.2.2.2.2.2.2.2.2.1 v.2.2.2.2.2.2.2.2.2.2.2.2.2.2.2.2.2.1 v.2.2.2.2.2.2.2.2.2.2.2.2.2.2.2.2.2.2.1 v.2.2.2.2.2.2.2.2.2.2.2.2.2.2.2.2.2.2.2.1 v.2.2.2.2.2.2.2.2.2.2.2.2.2.2.2.2.2.2.2.2 := by
    refine dp_add hB hL ok (fun v1 hB1 => ?_)
    obtain ⟨xP', xC', xA', xL', xO', xQ', xS', xK', dA', aA', po', st', jm', pl', op', el', so', ip', va', ov', oc'⟩ := v1
    exact nm_r (nI_1 i) (hJ _ _ (xP1, xC1, xA1, xL1, xO1, xQ1, xS1, xK1, dA1, aA1, po1, st1, jm1, pl1, op1, el1, so1, ip1, va1, ov1, oc1) (xP', xC', xA', xL', xO', xQ', xS', xK', dA', aA', po', st', jm', pl', op', el', so', ip', va', ov', oc') (Nat.le_refl _) hA2 hB1)
  refine br_c (fun _ => fin) (fun _ => br_c (fun _ => fin) (fun _ => dp_clear hA2 (fun u3 hA3 => ?_)))
  obtain ⟨xP2, xC2, xA2, xL2, xO2, xQ2, xS2, xK2, dA2, aA2, po2, st2, jm2, pl2, op2, el2, so2, ip2, va2, ov2, oc2⟩ := u3
  have hA4 : dp_X P 0 S (xP2, xC2, xA2, xL2, xO2, xQ2, xS2, xK2, dA2, aA2, po2, st2, jm2, pl2, op2, el2, so2, ip2, va2, ov2, oc2) := dp_X_c hA3 (fun x hx => absurd hx (by omega))
  exact dp_len hB ⟨L + 1, dp_466 hB (by omega) (fun u' hu' => hJ L S u' v (by omega) hu' hB) L 0 (xP2, xC2, xA2, xL2, xO2, xQ2, xS2, xK2, dA2, aA2, po2, st2, jm2, pl2, op2, el2, so2, ip2, va2, ov2, oc2) (by omega) hA4⟩
theorem dp_369 {post : Int32 → Prop} {N : Nat} {xs : Nat → Int32} {J285 : Int32 → Int32 → Int32 → Int32 → Int32 → Int32 → Int32 → Int32 → Int32 → Int32 → (Nat → Int32) → (Nat → Int32) → (Nat → Int32) → (Nat → Int32) → (Nat → Int32) → (Nat → Int32) → (Nat → Int32) → (Nat → Int32) → (Nat → Int32) → (Nat → Int32) → (Nat → Int32) → (Nat → Int32) → (Nat → Int32) → Int32 → Int32 → Int32 → Int32 → Int32 → Int32 → Int32 → Int32 → (Nat → Int32) → (Nat → Int32) → (Nat → Int32) → (Nat → Int32) → (Nat → Int32) → (Nat → Int32) → (Nat → Int32) → (Nat → Int32) → (Nat → Int32) → (Nat → Int32) → (Nat → Int32) → (Nat → Int32) → (Nat → Int32) → Prop} {x2 x6 x9 : Int32} {kc ks P L i k a b c : Nat} {S : Nat → Int32} {u v : St2} (hA : dp_X P L S u) (hB : dp_X P L S v) (P8 : P ≤ 8) (hL : L < 64) (k1 : 1 ≤ k) (k13 : k ≤ 13) (ha : a < 6) (hb : b < 6) (hc : c < 6) (h12 : k = 12 → a < 4) (hJ : ∀ (L' : Nat) (S' : Nat → Int32) (u' v' : St2), L' ≤ L + 1 → dp_X P L' S' u' → dp_X P L' S' v' → J285 x2 (nI (i + 1)) u'.1 u'.2.1 u'.2.2.1 u'.2.2.2.1 u'.2.2.2.2.1 u'.2.2.2.2.2.1 u'.2.2.2.2.2.2.1 u'.2.2.2.2.2.2.2.1 u'.2.2.2.2.2.2.2.2.1 u'.2.2.2.2.2.2.2.2.2.1 u'.2.2.2.2.2.2.2.2.2.2.1 u'.2.2.2.2.2.2.2.2.2.2.2.1 u'.2.2.2.2.2.2.2.2.2.2.2.2.1 u'.2.2.2.2.2.2.2.2.2.2.2.2.2.1 u'.2.2.2.2.2.2.2.2.2.2.2.2.2.2.1 u'.2.2.2.2.2.2.2.2.2.2.2.2.2.2.2.1 u'.2.2.2.2.2.2.2.2.2.2.2.2.2.2.2.2.1 u'.2.2.2.2.2.2.2.2.2.2.2.2.2.2.2.2.2.1 u'.2.2.2.2.2.2.2.2.2.2.2.2.2.2.2.2.2.2.1 u'.2.2.2.2.2.2.2.2.2.2.2.2.2.2.2.2.2.2.2.1 u'.2.2.2.2.2.2.2.2.2.2.2.2.2.2.2.2.2.2.2.2 v'.1 v'.2.1 v'.2.2.1 v'.2.2.2.1 v'.2.2.2.2.1 v'.2.2.2.2.2.1 v'.2.2.2.2.2.2.1 v'.2.2.2.2.2.2.2.1 v'.2.2.2.2.2.2.2.2.1 v'.2.2.2.2.2.2.2.2.2.1 v'.2.2.2.2.2.2.2.2.2.2.1 v'.2.2.2.2.2.2.2.2.2.2.2.1 v'.2.2.2.2.2.2.2.2.2.2.2.2.1 v'.2.2.2.2.2.2.2.2.2.2.2.2.2.1 v'.2.2.2.2.2.2.2.2.2.2.2.2.2.2.1 v'.2.2.2.2.2.2.2.2.2.2.2.2.2.2.2.1 v'.2.2.2.2.2.2.2.2.2.2.2.2.2.2.2.2.1 v'.2.2.2.2.2.2.2.2.2.2.2.2.2.2.2.2.2.1 v'.2.2.2.2.2.2.2.2.2.2.2.2.2.2.2.2.2.2.1 v'.2.2.2.2.2.2.2.2.2.2.2.2.2.2.2.2.2.2.2.1 v'.2.2.2.2.2.2.2.2.2.2.2.2.2.2.2.2.2.2.2.2) : wL_law_369 post N xs J285 x2 x6 x9 (nI i) (nI k) (nI a) (nI b) (nI c) kc ks u.1 u.2.1 u.2.2.1 u.2.2.2.1 u.2.2.2.2.1 u.2.2.2.2.2.1 u.2.2.2.2.2.2.1 u.2.2.2.2.2.2.2.1 u.2.2.2.2.2.2.2.2.1 u.2.2.2.2.2.2.2.2.2.1 u.2.2.2.2.2.2.2.2.2.2.1 u.2.2.2.2.2.2.2.2.2.2.2.1 u.2.2.2.2.2.2.2.2.2.2.2.2.1 u.2.2.2.2.2.2.2.2.2.2.2.2.2.1 u.2.2.2.2.2.2.2.2.2.2.2.2.2.2.1 u.2.2.2.2.2.2.2.2.2.2.2.2.2.2.2.1 u.2.2.2.2.2.2.2.2.2.2.2.2.2.2.2.2.1 u.2.2.2.2.2.2.2.2.2.2.2.2.2.2.2.2.2.1 u.2.2.2.2.2.2.2.2.2.2.2.2.2.2.2.2.2.2.1 u.2.2.2.2.2.2.2.2.2.2.2.2.2.2.2.2.2.2.2.1 u.2.2.2.2.2.2.2.2.2.2.2.2.2.2.2.2.2.2.2.2 v.1 v.2.1 v.2.2.1 v.2.2.2.1 v.2.2.2.2.1 v.2.2.2.2.2.1 v.2.2.2.2.2.2.1 v.2.2.2.2.2.2.2.1 v.2.2.2.2.2.2.2.2.1 v.2.2.2.2.2.2.2.2.2.1 v.2.2.2.2.2.2.2.2.2.2.1 v.2.2.2.2.2.2.2.2.2.2.2.1 v.2.2.2.2.2.2.2.2.2.2.2.2.1 v.2.2.2.2.2.2.2.2.2.2.2.2.2.1 v.2.2.2.2.2.2.2.2.2.2.2.2.2.2.1 v.2.2.2.2.2.2.2.2.2.2.2.2.2.2.2.1 v.2.2.2.2.2.2.2.2.2.2.2.2.2.2.2.2.1 v.2.2.2.2.2.2.2.2.2.2.2.2.2.2.2.2.2.1 v.2.2.2.2.2.2.2.2.2.2.2.2.2.2.2.2.2.2.1 v.2.2.2.2.2.2.2.2.2.2.2.2.2.2.2.2.2.2.2.1 v.2.2.2.2.2.2.2.2.2.2.2.2.2.2.2.2.2.2.2.2 := by
  have va : dl_v (nI a) := ⟨a, by omega, rfl⟩
  have vb : dl_v (nI b) := ⟨b, by omega, rfl⟩
  have vc : dl_v (nI c) := ⟨c, by omega, rfl⟩
  have e : k = 1 ∨ k = 2 ∨ k = 3 ∨ k = 4 ∨ k = 5 ∨ k = 6 ∨ k = 7 ∨ k = 8 ∨ k = 9 ∨ k = 10 ∨ k = 11 ∨ k = 12 ∨ k = 13 := by omega
  rcases e with e | e | e | e | e | e | e | e | e | e | e | e | e <;> subst e
  · exact br_t rfl (nm_e (dp_381 hA hB P8 hL (Or.inl ⟨rfl, va⟩) hJ))
  · exact br_f (by decide) (dp_381 hA hB P8 hL (Or.inr (Or.inl ⟨rfl, va, vb⟩)) hJ)
  · exact br_f (by decide) (dp_381 hA hB P8 hL (Or.inr (Or.inr (Or.inr (Or.inl ⟨Or.inl rfl, va, vb, vc⟩)))) hJ)
  · exact br_f (by decide) (dp_381 hA hB P8 hL (Or.inr (Or.inr (Or.inr (Or.inl ⟨Or.inr (Or.inl rfl), va, vb, vc⟩)))) hJ)
  · exact br_f (by decide) (dp_381 hA hB P8 hL (Or.inr (Or.inr (Or.inr (Or.inl ⟨Or.inr (Or.inr (Or.inl rfl)), va, vb, vc⟩)))) hJ)
  · exact br_f (by decide) (dp_381 hA hB P8 hL (Or.inr (Or.inr (Or.inr (Or.inl ⟨Or.inr (Or.inr (Or.inr (Or.inl rfl))), va, vb, vc⟩)))) hJ)
  · exact br_f (by decide) (dp_381 hA hB P8 hL (Or.inr (Or.inr (Or.inr (Or.inl ⟨Or.inr (Or.inr (Or.inr (Or.inr rfl))), va, vb, vc⟩)))) hJ)
  · exact br_f (by decide) (dp_381 hA hB P8 hL (Or.inr (Or.inr (Or.inr (Or.inr (Or.inl ⟨Or.inl rfl, va⟩))))) hJ)
  · exact br_f (by decide) (dp_381 hA hB P8 hL (Or.inr (Or.inr (Or.inr (Or.inr (Or.inr (Or.inl (Or.inl rfl))))))) hJ)
  · exact br_f (by decide) (dp_381 hA hB P8 hL (Or.inr (Or.inr (Or.inr (Or.inr (Or.inr (Or.inl (Or.inr rfl))))))) hJ)
  · exact br_f (by decide) (dp_381 hA hB P8 hL (Or.inr (Or.inr (Or.inr (Or.inr (Or.inl ⟨Or.inr rfl, va⟩))))) hJ)
  · exact br_f (by decide) (dp_381 hA hB P8 hL (Or.inr (Or.inr (Or.inr (Or.inr (Or.inr (Or.inr ⟨rfl, ⟨a, h12 rfl, rfl⟩, vb⟩)))))) hJ)
  · exact br_f (by decide) (dp_381 hA hB P8 hL (Or.inr (Or.inr (Or.inl ⟨rfl, va, vb⟩))) hJ)
theorem dp_285 {post : Int32 → Prop} {N : Nat} {xs : Nat → Int32} {kc ks P p ns : Nat} (hN : N ≤ 260) (h1 : post 1) (hp : p < P) (P8 : P ≤ 8) (hns : ns < 32) : ∀ (d i k L : Nat) (S : Nat → Int32) (u v : St2), i + d = ns → k ≤ 3000 + 10 * i → L ≤ i → dp_X P L S u → dp_X P L S v → wL_law_285 post N xs (nI p) (nI ns) kc ks (d + 1) (nI k) (nI i) u.1 u.2.1 u.2.2.1 u.2.2.2.1 u.2.2.2.2.1 u.2.2.2.2.2.1 u.2.2.2.2.2.2.1 u.2.2.2.2.2.2.2.1 u.2.2.2.2.2.2.2.2.1 u.2.2.2.2.2.2.2.2.2.1 u.2.2.2.2.2.2.2.2.2.2.1 u.2.2.2.2.2.2.2.2.2.2.2.1 u.2.2.2.2.2.2.2.2.2.2.2.2.1 u.2.2.2.2.2.2.2.2.2.2.2.2.2.1 u.2.2.2.2.2.2.2.2.2.2.2.2.2.2.1 u.2.2.2.2.2.2.2.2.2.2.2.2.2.2.2.1 u.2.2.2.2.2.2.2.2.2.2.2.2.2.2.2.2.1 u.2.2.2.2.2.2.2.2.2.2.2.2.2.2.2.2.2.1 u.2.2.2.2.2.2.2.2.2.2.2.2.2.2.2.2.2.2.1 u.2.2.2.2.2.2.2.2.2.2.2.2.2.2.2.2.2.2.2.1 u.2.2.2.2.2.2.2.2.2.2.2.2.2.2.2.2.2.2.2.2 v.1 v.2.1 v.2.2.1 v.2.2.2.1 v.2.2.2.2.1 v.2.2.2.2.2.1 v.2.2.2.2.2.2.1 v.2.2.2.2.2.2.2.1 v.2.2.2.2.2.2.2.2.1 v.2.2.2.2.2.2.2.2.2.1 v.2.2.2.2.2.2.2.2.2.2.1 v.2.2.2.2.2.2.2.2.2.2.2.1 v.2.2.2.2.2.2.2.2.2.2.2.2.1 v.2.2.2.2.2.2.2.2.2.2.2.2.2.1 v.2.2.2.2.2.2.2.2.2.2.2.2.2.2.1 v.2.2.2.2.2.2.2.2.2.2.2.2.2.2.2.1 v.2.2.2.2.2.2.2.2.2.2.2.2.2.2.2.2.1 v.2.2.2.2.2.2.2.2.2.2.2.2.2.2.2.2.2.1 v.2.2.2.2.2.2.2.2.2.2.2.2.2.2.2.2.2.2.1 v.2.2.2.2.2.2.2.2.2.2.2.2.2.2.2.2.2.2.2.1 v.2.2.2.2.2.2.2.2.2.2.2.2.2.2.2.2.2.2.2.2 := by
  intro d
  induction d with
  | zero =>
    intro i k L S u v hd hk hL hA hB
    have e : i = ns := by omega
    subst e
    exact br_t (nI_le (Nat.le_refl _) (by omega)) ⟨9 + 1, dp_526 hN h1 hp (by omega) P8 9 0 L S u v (by omega) (by omega) hA hB⟩
  | succ d ih =>
    intro i k L S u v hd hk hL hA hB
    refine br_f (nI_ge (by omega) (by omega)) (nm_r (nI_1 k) (dp_cell hN (by omega) (fun _ => dp_m 13 (by omega) (by omega) (fun r hr => nm_r (show (1 : Int32) + nI r = nI (1 + r) from nI_add 1 r) (nm_r (nI_1 (k + 1)) (dp_cell hN (by omega) (fun _ => dp_m 6 (by omega) (by omega) (fun a ha => nm_r (nI_1 (k + 2)) (dp_cell hN (by omega) (fun _ => dp_m 6 (by omega) (by omega) (fun b hb => nm_r (nI_1 (k + 3)) (dp_cell hN (by omega) (fun _ => dp_m 6 (by omega) (by omega) (fun c hc => ?_))))))))))))))
    have hJ : ∀ (L' : Nat) (S' : Nat → Int32) (u' v' : St2), L' ≤ L + 1 → dp_X P L' S' u' → dp_X P L' S' v' → wL_law_285 post N xs (nI p) (nI ns) kc ks (d + 1) (nI (k + 4)) (nI (i + 1)) u'.1 u'.2.1 u'.2.2.1 u'.2.2.2.1 u'.2.2.2.2.1 u'.2.2.2.2.2.1 u'.2.2.2.2.2.2.1 u'.2.2.2.2.2.2.2.1 u'.2.2.2.2.2.2.2.2.1 u'.2.2.2.2.2.2.2.2.2.1 u'.2.2.2.2.2.2.2.2.2.2.1 u'.2.2.2.2.2.2.2.2.2.2.2.1 u'.2.2.2.2.2.2.2.2.2.2.2.2.1 u'.2.2.2.2.2.2.2.2.2.2.2.2.2.1 u'.2.2.2.2.2.2.2.2.2.2.2.2.2.2.1 u'.2.2.2.2.2.2.2.2.2.2.2.2.2.2.2.1 u'.2.2.2.2.2.2.2.2.2.2.2.2.2.2.2.2.1 u'.2.2.2.2.2.2.2.2.2.2.2.2.2.2.2.2.2.1 u'.2.2.2.2.2.2.2.2.2.2.2.2.2.2.2.2.2.2.1 u'.2.2.2.2.2.2.2.2.2.2.2.2.2.2.2.2.2.2.2.1 u'.2.2.2.2.2.2.2.2.2.2.2.2.2.2.2.2.2.2.2.2 v'.1 v'.2.1 v'.2.2.1 v'.2.2.2.1 v'.2.2.2.2.1 v'.2.2.2.2.2.1 v'.2.2.2.2.2.2.1 v'.2.2.2.2.2.2.2.1 v'.2.2.2.2.2.2.2.2.1 v'.2.2.2.2.2.2.2.2.2.1 v'.2.2.2.2.2.2.2.2.2.2.1 v'.2.2.2.2.2.2.2.2.2.2.2.1 v'.2.2.2.2.2.2.2.2.2.2.2.2.1 v'.2.2.2.2.2.2.2.2.2.2.2.2.2.1 v'.2.2.2.2.2.2.2.2.2.2.2.2.2.2.1 v'.2.2.2.2.2.2.2.2.2.2.2.2.2.2.2.1 v'.2.2.2.2.2.2.2.2.2.2.2.2.2.2.2.2.1 v'.2.2.2.2.2.2.2.2.2.2.2.2.2.2.2.2.2.1 v'.2.2.2.2.2.2.2.2.2.2.2.2.2.2.2.2.2.2.1 v'.2.2.2.2.2.2.2.2.2.2.2.2.2.2.2.2.2.2.2.1 v'.2.2.2.2.2.2.2.2.2.2.2.2.2.2.2.2.2.2.2.2 := fun L' S' u' v' hL' hA' hB' => ih (i + 1) (k + 4) L' S' u' v' (by omega) (by omega) (by omega) hA' hB'
    refine br_c (fun z => dp_m 4 (by omega) (by omega) (fun a' ha' => ?_)) (fun z => ?_)
    · exact dp_369 hA hB P8 (by omega) (by omega) (by omega) (by omega) hb hc (fun _ => ha') hJ
    · refine dp_369 hA hB P8 (by omega) (by omega) (by omega) ha hb hc (fun e => absurd ?_ z) hJ
      rw [e]
      rfl
theorem dp_shne : ∀ P, P ≤ 8 → ¬ ((1 : Int32) <<< (nI P &&& 31)) + 1 = 0 := by
  intro P hP
  exact (by decide +kernel : ∀ P : Fin 9, ¬ ((1 : Int32) <<< (nI P.val &&& 31)) + 1 = 0) ⟨P, by omega⟩
theorem dp_162 {post : Int32 → Prop} {N : Nat} {xs : Nat → Int32} {kc ks P p np : Nat} (hN : N ≤ 260) (h1 : post 1) (hp : p < P) (P8 : P ≤ 8) (hnp : np < 16) : ∀ (d i k : Nat) (u v : St2), i + d = np → k ≤ 2000 + 10 * i → dp_X P 0 (fun _ => 0) u → dp_X P 0 (fun _ => 0) v → wL_law_162 post N xs (nI P) (nI p) (nI np) kc ks (d + 1) (nI k) (nI i) u.1 u.2.1 u.2.2.1 u.2.2.2.1 u.2.2.2.2.1 u.2.2.2.2.2.1 u.2.2.2.2.2.2.1 u.2.2.2.2.2.2.2.1 u.2.2.2.2.2.2.2.2.1 u.2.2.2.2.2.2.2.2.2.1 u.2.2.2.2.2.2.2.2.2.2.1 u.2.2.2.2.2.2.2.2.2.2.2.1 u.2.2.2.2.2.2.2.2.2.2.2.2.1 u.2.2.2.2.2.2.2.2.2.2.2.2.2.1 u.2.2.2.2.2.2.2.2.2.2.2.2.2.2.1 u.2.2.2.2.2.2.2.2.2.2.2.2.2.2.2.1 u.2.2.2.2.2.2.2.2.2.2.2.2.2.2.2.2.1 u.2.2.2.2.2.2.2.2.2.2.2.2.2.2.2.2.2.1 u.2.2.2.2.2.2.2.2.2.2.2.2.2.2.2.2.2.2.1 u.2.2.2.2.2.2.2.2.2.2.2.2.2.2.2.2.2.2.2.1 u.2.2.2.2.2.2.2.2.2.2.2.2.2.2.2.2.2.2.2.2 v.1 v.2.1 v.2.2.1 v.2.2.2.1 v.2.2.2.2.1 v.2.2.2.2.2.1 v.2.2.2.2.2.2.1 v.2.2.2.2.2.2.2.1 v.2.2.2.2.2.2.2.2.1 v.2.2.2.2.2.2.2.2.2.1 v.2.2.2.2.2.2.2.2.2.2.1 v.2.2.2.2.2.2.2.2.2.2.2.1 v.2.2.2.2.2.2.2.2.2.2.2.2.1 v.2.2.2.2.2.2.2.2.2.2.2.2.2.1 v.2.2.2.2.2.2.2.2.2.2.2.2.2.2.1 v.2.2.2.2.2.2.2.2.2.2.2.2.2.2.2.1 v.2.2.2.2.2.2.2.2.2.2.2.2.2.2.2.2.1 v.2.2.2.2.2.2.2.2.2.2.2.2.2.2.2.2.2.1 v.2.2.2.2.2.2.2.2.2.2.2.2.2.2.2.2.2.2.1 v.2.2.2.2.2.2.2.2.2.2.2.2.2.2.2.2.2.2.2.1 v.2.2.2.2.2.2.2.2.2.2.2.2.2.2.2.2.2.2.2.2 := by
  intro d
  induction d with
  | zero =>
    intro i k u v hd hk hA hB
    have e : i = np := by omega
    subst e
    exact br_t (nI_le (Nat.le_refl _) (by omega)) (nm_r (nI_1 k) (dp_cell hN (by omega) (fun _ => dp_m 32 (by omega) (by omega) (fun ns hns => ⟨ns + 1, dp_285 hN h1 hp P8 hns ns 0 (k + 1) 0 _ u v (by omega) (by omega) (by omega) hA hB⟩))))
  | succ d ih =>
    intro i k u v hd hk hA hB
    have nz : ¬ nI P = 0 := nI_ne0 (by omega) (by omega)
    have fin : ∀ z0 : Int32, wL_law_201 post N xs (wL_law_162 post N xs (nI P) (nI p) (nI np) kc ks (d + 1)) (nI (k + 1)) (nI P) (nI p) (nI np) (nI i) z0 kc ks u.1 u.2.1 u.2.2.1 u.2.2.2.1 u.2.2.2.2.1 u.2.2.2.2.2.1 u.2.2.2.2.2.2.1 u.2.2.2.2.2.2.2.1 u.2.2.2.2.2.2.2.2.1 u.2.2.2.2.2.2.2.2.2.1 u.2.2.2.2.2.2.2.2.2.2.1 u.2.2.2.2.2.2.2.2.2.2.2.1 u.2.2.2.2.2.2.2.2.2.2.2.2.1 u.2.2.2.2.2.2.2.2.2.2.2.2.2.1 u.2.2.2.2.2.2.2.2.2.2.2.2.2.2.1 u.2.2.2.2.2.2.2.2.2.2.2.2.2.2.2.1 u.2.2.2.2.2.2.2.2.2.2.2.2.2.2.2.2.1 u.2.2.2.2.2.2.2.2.2.2.2.2.2.2.2.2.2.1 u.2.2.2.2.2.2.2.2.2.2.2.2.2.2.2.2.2.2.1 u.2.2.2.2.2.2.2.2.2.2.2.2.2.2.2.2.2.2.2.1 u.2.2.2.2.2.2.2.2.2.2.2.2.2.2.2.2.2.2.2.2 v.1 v.2.1 v.2.2.1 v.2.2.2.1 v.2.2.2.2.1 v.2.2.2.2.2.1 v.2.2.2.2.2.2.1 v.2.2.2.2.2.2.2.1 v.2.2.2.2.2.2.2.2.1 v.2.2.2.2.2.2.2.2.2.1 v.2.2.2.2.2.2.2.2.2.2.1 v.2.2.2.2.2.2.2.2.2.2.2.1 v.2.2.2.2.2.2.2.2.2.2.2.2.1 v.2.2.2.2.2.2.2.2.2.2.2.2.2.1 v.2.2.2.2.2.2.2.2.2.2.2.2.2.2.1 v.2.2.2.2.2.2.2.2.2.2.2.2.2.2.2.1 v.2.2.2.2.2.2.2.2.2.2.2.2.2.2.2.2.1 v.2.2.2.2.2.2.2.2.2.2.2.2.2.2.2.2.2.1 v.2.2.2.2.2.2.2.2.2.2.2.2.2.2.2.2.2.2.1 v.2.2.2.2.2.2.2.2.2.2.2.2.2.2.2.2.2.2.2.1 v.2.2.2.2.2.2.2.2.2.2.2.2.2.2.2.2.2.2.2.2 := by
      intro z0
      refine nm_r (nI_1 (k + 1)) (dp_cell hN (by omega) (fun _ => dp_ma nz (fun _ => nm_r (nI_1 (k + 2)) (dp_cell hN (by omega) (fun _ => dp_ma (dp_shne P P8) (fun _ => nm_e (dp_pol hA (fun _ u' hA' => ?_))))))))
      obtain ⟨xP, xC, xA, xL, xO, xQ, xS, xK, dA, aA, po, st, jm, pl, op, el, so, ip, va, ov, oc⟩ := u'
      refine dp_pol hB (fun _ v' hB' => ?_)
      obtain ⟨xP', xC', xA', xL', xO', xQ', xS', xK', dA', aA', po', st', jm', pl', op', el', so', ip', va', ov', oc'⟩ := v'
      exact nm_r (nI_1 i) (ih (i + 1) (k + 3) (xP, xC, xA, xL, xO, xQ, xS, xK, dA, aA, po, st, jm, pl, op, el, so, ip, va, ov, oc) (xP', xC', xA', xL', xO', xQ', xS', xK', dA', aA', po', st', jm', pl', op', el', so', ip', va', ov', oc') (by omega) (by omega) hA' hB')
    exact br_f (nI_ge (by omega) (by omega)) (nm_r (nI_1 k) (dp_cell hN (by omega) (fun _ => dp_ma (by decide) (fun _ => br_c (fun _ => fin _) (fun _ => fin _)))))
theorem dp_74 {post : Int32 → Prop} {N : Nat} {xs : Nat → Int32} {kc ks P p ne : Nat} (hN : N ≤ 260) (h1 : post 1) (hp : p < P) (P8 : P ≤ 8) (hne : ne < 5) : ∀ (d i k : Nat) (u v : St2), i + d = ne → k ≤ 1000 + 10 * i → dp_X P 0 (fun _ => 0) u → dp_X P 0 (fun _ => 0) v → wL_law_74 post N xs (nI P) (nI p) (nI ne) kc ks (d + 1) (nI k) (nI i) u.1 u.2.1 u.2.2.1 u.2.2.2.1 u.2.2.2.2.1 u.2.2.2.2.2.1 u.2.2.2.2.2.2.1 u.2.2.2.2.2.2.2.1 u.2.2.2.2.2.2.2.2.1 u.2.2.2.2.2.2.2.2.2.1 u.2.2.2.2.2.2.2.2.2.2.1 u.2.2.2.2.2.2.2.2.2.2.2.1 u.2.2.2.2.2.2.2.2.2.2.2.2.1 u.2.2.2.2.2.2.2.2.2.2.2.2.2.1 u.2.2.2.2.2.2.2.2.2.2.2.2.2.2.1 u.2.2.2.2.2.2.2.2.2.2.2.2.2.2.2.1 u.2.2.2.2.2.2.2.2.2.2.2.2.2.2.2.2.1 u.2.2.2.2.2.2.2.2.2.2.2.2.2.2.2.2.2.1 u.2.2.2.2.2.2.2.2.2.2.2.2.2.2.2.2.2.2.1 u.2.2.2.2.2.2.2.2.2.2.2.2.2.2.2.2.2.2.2.1 u.2.2.2.2.2.2.2.2.2.2.2.2.2.2.2.2.2.2.2.2 v.1 v.2.1 v.2.2.1 v.2.2.2.1 v.2.2.2.2.1 v.2.2.2.2.2.1 v.2.2.2.2.2.2.1 v.2.2.2.2.2.2.2.1 v.2.2.2.2.2.2.2.2.1 v.2.2.2.2.2.2.2.2.2.1 v.2.2.2.2.2.2.2.2.2.2.1 v.2.2.2.2.2.2.2.2.2.2.2.1 v.2.2.2.2.2.2.2.2.2.2.2.2.1 v.2.2.2.2.2.2.2.2.2.2.2.2.2.1 v.2.2.2.2.2.2.2.2.2.2.2.2.2.2.1 v.2.2.2.2.2.2.2.2.2.2.2.2.2.2.2.1 v.2.2.2.2.2.2.2.2.2.2.2.2.2.2.2.2.1 v.2.2.2.2.2.2.2.2.2.2.2.2.2.2.2.2.2.1 v.2.2.2.2.2.2.2.2.2.2.2.2.2.2.2.2.2.2.1 v.2.2.2.2.2.2.2.2.2.2.2.2.2.2.2.2.2.2.2.1 v.2.2.2.2.2.2.2.2.2.2.2.2.2.2.2.2.2.2.2.2 := by
  intro d
  induction d with
  | zero =>
    intro i k u v hd hk hA hB
    have e : i = ne := by omega
    subst e
    exact br_t (nI_le (Nat.le_refl _) (by omega)) (nm_r (nI_1 k) (dp_cell hN (by omega) (fun _ => dp_m 16 (by omega) (by omega) (fun np hnp => ⟨np + 1, dp_162 hN h1 hp P8 hnp np 0 (k + 1) u v (by omega) (by omega) hA hB⟩))))
  | succ d ih =>
    intro i k u v hd hk hA hB
    have nz : ¬ nI P = 0 := nI_ne0 (by omega) (by omega)
    refine br_f (nI_ge (by omega) (by omega)) (nm_r (nI_1 k) (dp_cell hN (by omega) (fun _ => dp_ma nz (fun a => nm_r (nI_1 (k + 1)) (dp_cell hN (by omega) (fun _ => dp_ma nz (fun b => br_c (fun _ => nm_r (nI_1 i) (ih (i + 1) (k + 2) u v (by omega) (by omega) hA hB)) (fun _ => dp_acts hA (fun _ u' hA' => ?_)))))))))
    obtain ⟨xP, xC, xA, xL, xO, xQ, xS, xK, dA, aA, po, st, jm, pl, op, el, so, ip, va, ov, oc⟩ := u'
    refine dp_acts hB (fun _ v' hB' => ?_)
    obtain ⟨xP', xC', xA', xL', xO', xQ', xS', xK', dA', aA', po', st', jm', pl', op', el', so', ip', va', ov', oc'⟩ := v'
    exact nm_r (nI_1 i) (ih (i + 1) (k + 2) (xP, xC, xA, xL, xO, xQ, xS, xK, dA, aA, po, st, jm, pl, op, el, so, ip, va, ov, oc) (xP', xC', xA', xL', xO', xQ', xS', xK', dA', aA', po', st', jm', pl', op', el', so', ip', va', ov', oc') (by omega) (by omega) hA' hB')
end
