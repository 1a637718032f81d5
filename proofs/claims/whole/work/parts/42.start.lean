set_option maxRecDepth 100000 in
theorem tn33 : Cond.methodLinkNest RX1 33 yX2_viewsOfForm "LoomPanel" ∈ lw_tbl := by decide +kernel
set_option maxRecDepth 100000 in
theorem tn45 : Cond.methodLinkNest RX1 45 yX2_isLength "LoomPanel" ∈ lw_tbl := by decide +kernel
set_option maxRecDepth 100000 in
theorem tn48 : Cond.methodLinkNest RX1 48 yX2_isBoardForm "LoomPanel" ∈ lw_tbl := by decide +kernel
set_option maxRecDepth 100000 in
theorem tn9 : Cond.methodLinkNest RX2 9 yX1_init "LoomPanel" ∈ lw_tbl := by decide +kernel
set_option maxRecDepth 100000 in
theorem tn18 : Cond.methodLinkNest RX2 18 yX0_init "LoomPanel" ∈ lw_tbl := by decide +kernel
set_option maxRecDepth 100000 in
theorem tiX0 : Cond.instantiable RX0 4 ∈ lw_tbl := by decide +kernel
set_option maxRecDepth 100000 in
theorem tiX1 : Cond.instantiable RX1 5 ∈ lw_tbl := by decide +kernel
set_option maxRecDepth 100000 in
theorem tiX2 : Cond.instantiable RX2 5 ∈ lw_tbl := by decide +kernel
set_option maxRecDepth 100000 in
theorem tiX3 : Cond.instantiable RX3 13 ∈ lw_tbl := by decide +kernel
set_option maxRecDepth 100000 in
theorem tac : Cond.arrayClass .int ∈ lw_tbl := by decide +kernel
set_option maxRecDepth 100000 in
theorem taj : Cond.arrayClass .long ∈ lw_tbl := by decide +kernel
set_option maxRecDepth 100000 in
theorem wc2 : Cond.classLink RL 7 RX2 ∈ wsL_law := by decide +kernel
set_option maxRecDepth 100000 in
theorem wc3 : Cond.classLink RL 10 RX3 ∈ wsL_law := by decide +kernel
set_option maxRecDepth 100000 in
theorem wi2 : Cond.instantiable RX2 5 ∈ wsL_law := by decide +kernel
set_option maxRecDepth 100000 in
theorem wi3 : Cond.instantiable RX3 13 ∈ wsL_law := by decide +kernel
set_option maxRecDepth 100000 in
theorem wz2 : Cond.initialized RX2 ∈ wsL_law := by decide +kernel
set_option maxRecDepth 100000 in
theorem wz3 : Cond.initialized RX3 ∈ wsL_law := by decide +kernel
set_option maxRecDepth 100000 in
theorem wm2 : Cond.methodLink RL 9 yX2_init ∈ wsL_law := by decide +kernel
set_option maxRecDepth 100000 in
theorem wm3 : Cond.methodLink RL 12 yX3_init ∈ wsL_law := by decide +kernel
set_option maxRecDepth 100000 in
theorem wn2 : Cond.instanceMethod yX2_init ∈ wsL_law := by decide +kernel
set_option maxRecDepth 100000 in
theorem wn3 : Cond.instanceMethod yX3_init ∈ wsL_law := by decide +kernel
theorem inl2 : ∀ w ∈ wsX20, w ∈ wsL_law := fun _ h => List.mem_append_left _ (List.mem_append_left _ (List.mem_append_left _ (List.mem_append_left _ (List.mem_append_right _ h))))
theorem inl3 : ∀ w ∈ wsX30, w ∈ wsL_law := fun _ h => List.mem_append_left _ (List.mem_append_left _ (List.mem_append_left _ (List.mem_append_right _ h)))
theorem arr_K {s : State} {args : Array Value} {ty : FieldType} (h : (Cond.arrayClass ty).before args s = true) (hty : ty = .int ∨ ty = .long) : ∃ cA : ClassId, ArrOfT s cA ty ∧ va_RA s cA ty := by
  obtain ⟨cA, kA, comp, h1, h2, h3⟩ := Cond.arrayClass_spec h
  refine ⟨cA, fun n z => ⟨fun k h => (by cases h), kA, h2, comp, h3⟩, ?_⟩
  rcases hty with rfl | rfl
  · exact h1
  · exact h1
set_option maxHeartbeats 4000000 in
set_option maxRecDepth 100000 in
/-- THE LAW, from its entry -/
theorem whole_start {p : Program} {e : Env} {s : State} {m : MethodId} {below : List Frame} {meth : Method} {c : Code} (l : Launch) {b L : Nat} {xs : Nat → Int32} (hL : L ≤ 2560) (C0 : lw_At p s m meth c b L xs) : W p l e room_1 s m #[Value.ref b] below meth c s.heap [] 0 0 (lw_Z below #[Value.ref b] s) (entryFrame m ([Value.ref b] : List Value).toArray 4) := by
  obtain ⟨hx, hb, hr, hml, hown, hts0, hX, hbl, hlocks, hgv⟩ := id C0
  have hts : ∀ w ∈ wsL_law, w.before #[Value.ref b] s = true := fun w h => hts0 w (wsL_law_in w h)
  have hA : ∀ q : Nat, s.heap.size ≤ q → (fun q : Nat => s.heap.size ≤ q) q := fun _ h => h
  obtain ⟨c0, iS0, hKn0⟩ := u_known (C := RX0) (T := TX0) (N := 4) (n := 4) hts0 inX0 (hts0 _ tiX0)
  obtain ⟨c1, iS1, hKn1⟩ := u_known (C := RX1) (T := TX1) (N := 5) (n := 5) hts0 inX1 (hts0 _ tiX1)
  obtain ⟨c2, iS2, hKn2⟩ := u_known (C := RX2) (T := TX2) (N := 5) (n := 5) hts0 inX2 (hts0 _ tiX2)
  obtain ⟨c3, iS3, hKn3⟩ := u_known (C := RX3) (T := TX3) (N := 13) (n := 13) hts0 inX3 (hts0 _ tiX3)
  obtain ⟨D, hKc⟩ : ∃ D : va_G, ∀ (k : Nat) (q : vw_C), vwCl[k]? = some q → u_Kn s q.1 q.2.1 q.2.2 (D.1 k) (D.2 k) := by
    refine ⟨(fun k => match k with | 0 => c0 | 1 => c1 | 2 => c2 | _ => c3, fun k => match k with | 0 => iS0 | 1 => iS1 | 2 => iS2 | _ => iS3), ?_⟩
    intro k q hq
    match k, hq with
    | 0, hq => cases hq; exact hKn0
    | 1, hq => cases hq; exact hKn1
    | 2, hq => cases hq; exact hKn2
    | 3, hq => cases hq; exact hKn3
    | k + 4, hq => simp [vwCl] at hq
  obtain ⟨cI, hI1, hI2⟩ := arr_K (hts0 _ tac) (Or.inl rfl)
  obtain ⟨cJ, hJ1, hJ2⟩ := arr_K (hts0 _ taj) (Or.inr rfl)
  have hK : va_K D vwCl (cw_tys cI cJ) s := ⟨hKc, fun k q hq => by
    match k, hq with
    | 0, hq => cases hq; exact ⟨hI1, hI2⟩
    | 1, hq => cases hq; exact ⟨hJ1, hJ2⟩
    | k + 2, hq => simp at hq⟩
  have hN : KN s := ⟨va_Nw.of rfl (hts0 _ tn33), va_Nw.of rfl (hts0 _ tn45), va_Nw.of rfl (hts0 _ tn48), va_Nw.of rfl (hts0 _ tn9), va_Nw.of rfl (hts0 _ tn18)⟩
  have hS : va_S (fun q : Nat => s.heap.size ≤ q) s.heap s.heap [] := va_S.rf
  have hP : va_P D vwCl [] s.heap := fun k q h => by simp at h
  have hD : va_D (fun q : Nat => s.heap.size ≤ q) [] := ⟨fun i j p q h => by simp at h, fun k q h => by simp at h⟩
  have hl := lv_entry ([.ref b]) (n := 4) (Nat.le_of_ble_eq_true rfl)
  rw [lg_entry_eq]
  generalize (lg_sl ([.ref b]) ++ List.replicate (4 - (lg_sl ([.ref b])).length) Slot.unset).toArray = ls at hl ⊢
  have hl : lv_has ls 4 [(0, .ref b)] := hl
  refine va_new (ci := 2) (fs := [.null, .null, .int 0, .int 0, .int 0]) (C := RX2) (T := TX2) (N := 5) hx hb hts inl2 tyX2 tyX2_ok hown (hts _ wc2) (hts _ wi2) (hts _ wz2) hK hP hD hS hA rfl (fun j hj => by rcases (show j = 0 ∨ j = 1 ∨ j = 2 ∨ j = 3 ∨ j = 4 by omega) with rfl | rfl | rfl | rfl | rfl <;> rfl) (Nat.le_of_ble_eq_true rfl) (Nat.le_of_ble_eq_true rfl) dL_law_0 (fun v H hP hD hS => ?_)
  have hP : va_P D vwCl [(v, .inr (2, [.null, .null, .int 0, .int 0, .int 0]))] H := hP
  have hD : va_D (fun q : Nat => s.heap.size ≤ q) [(v, .inr (2, [.null, .null, .int 0, .int 0, .int 0]))] := hD
  refine lv_dup hx hb dL_law_3 rfl ?_
  have hPc := hP.sub (ws' := [(v, .inr (2, [.null, .null, .int 0, .int 0, .int 0]))]) [0] rfl
  have hDc := hD.sub (ws' := [(v, .inr (2, [.null, .null, .int 0, .int 0, .int 0]))]) [0] (by decide) rfl
  have hFc := va_free (wc := [(v, .inr (2, [.null, .null, .int 0, .int 0, .int 0]))]) hD hS hA [0] rfl
  refine va_callv (va_runI (As := []) (rest := [.ref v]) ⟨hx, hb, hml, hown, hts⟩ (c_X2_init l D cI cJ v H.size) (cwI 0 hts gL_law_X2_init rfl rfl rfl (hts _ wz2) (hts _ wm2) (hts _ wn2) rfl esX2_init ⟨Nat.le_of_ble_eq_true rfl, Nat.le_of_ble_eq_true rfl⟩) ⟨fun a U g mk q => by obtain ⟨q0, q1, qP, qK, qN, qD⟩ := q; exact ⟨q0, q1, qP, va_K.moved (u := U) (U := U.calling g mk a) (Vm.Alike.refl U.vm) qK, KN_calling qN, qD⟩, fun U hU hW => ⟨rfl, by rw [hU], by rw [hU]; exact hPc, va_K.moved hW.alike hK, KN_warm hW hN, hDc.weaken (fun _ _ _ _ => trivial)⟩⟩ rfl rfl hl.1 rfl (lv_room (Nat.le_of_ble_eq_true rfl)) dL_law_4 ⟨Nat.le_of_ble_eq_true rfl, Nat.le_of_ble_eq_true rfl⟩) hS (fun q _ h => hFc q h) hFc (fun u t H1 locs ht hvm hw hB hz1 hk1 hS => ?_)
  obtain ⟨a, ha0, hP1, hD1⟩ := hB
  rw [ht] at hP1
  subst ha0
  have hP : va_P D vwCl (cw cI cJ a K0) H1 := hP1
  have hD : va_D (fun q : Nat => s.heap.size ≤ q) (cw cI cJ a K0) := hD1.weaken (fun k q _ h => hFc q.1 h)
  clear hPc hDc hFc hz1 hk1 hP1 hD1
  generalize H1 = H at hP hS ⊢
  refine W.widen (k := 11) (n := 896) (by decide) (by decide) ?_
  refine lv_astore_n (lv' := [(1, .ref (a 0)), (0, .ref b)]) hx hb dL_law_7 rfl hl (by decide) rfl (fun ls hl => ?_)
  refine va_new (ci := 3) (fs := [.int 0, .null, .null, .null, .null, .null, .null, .null, .null, .null, .int 0, .int 0, .int 0]) (C := RX3) (T := TX3) (N := 13) hx hb hts inl3 tyX3 tyX3_ok hown (hts _ wc3) (hts _ wi3) (hts _ wz3) hK hP hD hS hA rfl (fun j hj => by rcases (show j = 0 ∨ j = 1 ∨ j = 2 ∨ j = 3 ∨ j = 4 ∨ j = 5 ∨ j = 6 ∨ j = 7 ∨ j = 8 ∨ j = 9 ∨ j = 10 ∨ j = 11 ∨ j = 12 by omega) with rfl | rfl | rfl | rfl | rfl | rfl | rfl | rfl | rfl | rfl | rfl | rfl | rfl <;> rfl) (Nat.le_of_ble_eq_true rfl) (Nat.le_of_ble_eq_true rfl) dL_law_8 (fun q H hP hD hS => ?_)
  have hP : va_P D vwCl (cw cI cJ a K0 ++ [(q, .inr (3, [.int 0, .null, .null, .null, .null, .null, .null, .null, .null, .null, .int 0, .int 0, .int 0]))]) H := hP
  have hD : va_D (fun q : Nat => s.heap.size ≤ q) (cw cI cJ a K0 ++ [(q, .inr (3, [.int 0, .null, .null, .null, .null, .null, .null, .null, .null, .null, .int 0, .int 0, .int 0]))]) := hD
  refine lv_dup hx hb dL_law_11 rfl ?_
  have hPc := hP.sub (ws' := [(q, .inr (3, [.int 0, .null, .null, .null, .null, .null, .null, .null, .null, .null, .int 0, .int 0, .int 0]))]) [11] rfl
  have hDc := hD.sub (ws' := [(q, .inr (3, [.int 0, .null, .null, .null, .null, .null, .null, .null, .null, .null, .int 0, .int 0, .int 0]))]) [11] (by decide) rfl
  have hFc := va_free (wc := [(q, .inr (3, [.int 0, .null, .null, .null, .null, .null, .null, .null, .null, .null, .int 0, .int 0, .int 0]))]) hD hS hA [11] rfl
  refine va_callv (va_runI (As := []) (rest := [.ref q]) ⟨hx, hb, hml, hown, hts⟩ (c_X3_init l D cI cJ q H.size) (cwI 0 hts gL_law_X3_init rfl rfl rfl (hts _ wz3) (hts _ wm3) (hts _ wn3) rfl esX3_init ⟨Nat.le_of_ble_eq_true rfl, Nat.le_of_ble_eq_true rfl⟩) ⟨fun a U g mk q => by obtain ⟨q0, q1, qP, qK, qN, qD⟩ := q; exact ⟨q0, q1, qP, va_K.moved (u := U) (U := U.calling g mk a) (Vm.Alike.refl U.vm) qK, KN_calling qN, qD⟩, fun U hU hW => ⟨rfl, by rw [hU], by rw [hU]; exact hPc, va_K.moved hW.alike hK, KN_warm hW hN, hDc.weaken (fun _ _ _ _ => trivial)⟩⟩ rfl rfl hl.1 rfl (lv_room (Nat.le_of_ble_eq_true rfl)) dL_law_12 ⟨Nat.le_of_ble_eq_true rfl, Nat.le_of_ble_eq_true rfl⟩) hS (fun q _ h => hFc q h) hFc (fun u t H1 locs ht hvm hw hB hz1 hk1 hS => ?_)
  obtain ⟨q1, q2, q3, q4, q5, q6, q7, q8, q9, hP1, hD1⟩ := hB
  rw [ht] at hP1
  obtain ⟨hP, hD⟩ := va_join (wr := cw cI cJ a K0) (w1 := [(q, .inr (3, [.int 0, .ref q1, .ref q2, .ref q3, .ref q4, .ref q5, .ref q6, .ref q7, .ref q8, .ref q9, .int 0, .int 0, .int (-1)])), (q1, .inl (cI, 60, .inl (fun _ => 0))), (q2, .inl (cI, 60, .inl (fun _ => 0))), (q3, .inl (cI, 60, .inl (fun _ => 0))), (q4, .inl (cJ, 480, .inr (.inl (fun _ => 0)))), (q5, .inl (cI, 480, .inl (fun _ => 0))), (q6, .inl (cI, 6, .inl (fun _ => 0))), (q7, .inl (cI, 72, .inl (fun _ => 0))), (q8, .inl (cI, 72, .inl (fun _ => 0))), (q9, .inl (cI, 72, .inl (fun _ => 0)))]) hP hD [11] [0, 1, 2, 3, 4, 5, 6, 7, 8, 9, 10] rfl rfl (by decide) (by decide) hk1 hFc hP1 hD1
  clear hPc hDc hFc hz1 hk1 hP1 hD1
  generalize H1 = H at hP hS ⊢
  obtain ⟨b2, hb2⟩ : ∃ b2 : Nat → Nat, b2 = (fun i => ([q, q1, q2, q3, q4, q5, q6, q7, q8, q9] : List Nat).getD i 0) := ⟨_, rfl⟩
  have eq0 : q = b2 0 := by rw [hb2]; rfl
  have hP : va_P D vwCl (cw cI cJ a K0 ++ mw cI cJ b2 M0) H := by rw [hb2]; exact hP
  have hD : va_D (fun q : Nat => s.heap.size ≤ q) (cw cI cJ a K0 ++ mw cI cJ b2 M0) := by rw [hb2]; exact hD
  rw [eq0]
  clear hb2
  have hPk := hP.sub (ws' := cw cI cJ a K0) [0, 1, 2, 3, 4, 5, 6, 7, 8, 9, 10] rfl
  have hPm := hP.sub (ws' := mw cI cJ b2 M0) [11, 12, 13, 14, 15, 16, 17, 18, 19, 20] rfl
  have hDk := hD.sub (ws' := cw cI cJ a K0) [0, 1, 2, 3, 4, 5, 6, 7, 8, 9, 10] (by decide) rfl
  have hDm := hD.sub (ws' := mw cI cJ b2 M0) [11, 12, 13, 14, 15, 16, 17, 18, 19, 20] (by decide) rfl
  have hda : ∀ i j, i < 11 → j < 11 → a i = a j → i = j := fun i j hi hj h => by
    obtain ⟨e1, h1⟩ := cw_get (cI := cI) (cJ := cJ) (a := a) (S := K0) hi
    obtain ⟨e2, h2⟩ := cw_get (cI := cI) (cJ := cJ) (a := a) (S := K0) hj
    exact hDk.1 i j _ _ h1 h2 h
  have hdb : ∀ i j, i < 10 → j < 10 → b2 i = b2 j → i = j := fun i j hi hj h => by
    obtain ⟨e1, h1⟩ := mw_get (cI := cI) (cJ := cJ) (a := b2) (S := M0) hi
    obtain ⟨e2, h2⟩ := mw_get (cI := cI) (cJ := cJ) (a := b2) (S := M0) hj
    exact hDm.1 i j _ _ h1 h2 h
  have hab : ∀ i j, i < 11 → j < 10 → ¬ a i = b2 j := fun i j hi hj h => by
    obtain ⟨e1, h1⟩ := cw_get (cI := cI) (cJ := cJ) (a := a) (S := K0) hi
    obtain ⟨e2, h2⟩ := mw_get (cI := cI) (cJ := cJ) (a := b2) (S := M0) hj
    have g1 : (cw cI cJ a K0 ++ mw cI cJ b2 M0)[i]? = some (a i, e1) := by rw [List.getElem?_append_left (show i < 11 from hi)]; exact h1
    have g2 : (cw cI cJ a K0 ++ mw cI cJ b2 M0)[11 + j]? = some (b2 j, e2) := by rw [List.getElem?_append_right (show 11 ≤ 11 + j by omega), show 11 + j - (cw cI cJ a K0).length = j from Nat.add_sub_cancel_left 11 j]; exact h2
    have := hD.1 i (11 + j) _ _ g1 g2 h
    omega
  have hkA : ∀ q, kA a q → s.heap.size ≤ q := fun q ⟨i, hi, e⟩ => by
    obtain ⟨e1, h1⟩ := cw_get (cI := cI) (cJ := cJ) (a := a) (S := K0) hi
    rw [e]; exact hDk.2 i _ h1
  have hmA : ∀ q, mA b2 q → s.heap.size ≤ q := fun q ⟨i, hi, e⟩ => by
    obtain ⟨e1, h1⟩ := mw_get (cI := cI) (cJ := cJ) (a := b2) (S := M0) hi
    rw [e]; exact hDm.2 i _ h1
  refine W.widen (k := 21) (n := 2271) (by decide) (by decide) ?_
  refine lv_astore_n (lv' := [(2, .ref (b2 0)), (1, .ref (a 0)), (0, .ref b)]) hx hb dL_law_15 rfl hl (by decide) rfl (fun ls hl => ?_)
  refine lv_iconst (v := 0) hx hb dL_law_16 (by decide) ?_
  refine lv_istore_n (lv' := [(3, .int 0), (2, .ref (b2 0)), (1, .ref (a 0)), (0, .ref b)]) hx hb dL_law_17 rfl hl (by decide) rfl (fun ls hl => ?_)
  exact law_loop hL C0 hK hN hda hdb hab hkA hmA (L + 1) 0 (Nat.zero_le L) (by omega) K0 M0 0 _ _ ls KM0 K0_inv M0_inv hPk hPm hS (lv_sub hl [3, 2, 1, 0] rfl)
