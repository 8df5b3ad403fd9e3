/-! p18: what is owed -/
theorem i_vc (xs : Nat → Int32) (L : Nat) (hL : L ≤ 260) : wpL_law (fun r => r = 1) L xs := by
  unfold wpL_law
  refine nm_r (nI_1 0) (dp_cell (k := 0) hL (by omega) (fun _ => dp_m 4 (by omega) (by omega) (fun r hr => nm_r (show (2 : Int32) + nI r = nI (2 + r) from nI_add 2 r) ⟨13, 692, by omega, by omega, dp_init (by omega) (by omega) (fun u hA => ?_)⟩)))
  obtain ⟨xP, xC, xA, xL, xO, xQ, xS, xK, dA, aA, po, st, jm, pl, op, el, so, ip, va, ov, oc⟩ := u
  refine ⟨by omega, by omega, 13, 692, by omega, by omega, dp_init (by omega) (by omega) (fun v hB => ?_)⟩
  obtain ⟨xP', xC', xA', xL', xO', xQ', xS', xK', dA', aA', po', st', jm', pl', op', el', so', ip', va', ov', oc'⟩ := v
  exact nm_r (nI_1 1) (dp_cell (k := 1) hL (by omega) (fun _ => dp_m (2 + r) (by omega) (by omega) (fun p hp => nm_r (nI_1 2) (dp_cell (k := 2) hL (by omega) (fun _ => dp_m 5 (by omega) (by omega) (fun ne hne => ⟨ne + 1, dp_74 (post := fun r => r = 1) hL rfl hp (by omega) hne ne 0 3 (xP, xC, xA, xL, xO, xQ, xS, xK, dA, aA, po, st, jm, pl, op, el, so, ip, va, ov, oc) (xP', xC', xA', xL', xO', xQ', xS', xK', dA', aA', po', st', jm', pl', op', el', so', ip', va', ov', oc') (by omega) (by omega) hA hB⟩))))))
