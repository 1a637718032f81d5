/-! THE CLAIM OUT OF ONE WALK OF THE LAW'S BODY. Your part is whole_start (and what it stands on); all else here is the same for every law, but numbers. -/
def R_law : String := "LoomPanelLaw"
def lw_P (b : Addr) (xs : List Int32) (args : Array Value) (s : State) : Prop := args = #[.ref b] ∧ s.IntsAt b xs ∧ xs.length ≤ 2560 ∧ (Jvm.Cond.and given_1 narrow_1).before args s = true
def lw_Q (_ : Array Value) (s : State) (o : Outcome) (t : State) : Prop := o = .returned (some (.int 1)) ∧ Framed s o t [] 21 2271
def lw_Z (below : List Frame) (a : Array Value) (s : State) : State → Prop := fun t => ∃ o, t.status = .running ∧ Ended t below o ∧ lw_Q a s o t
/-- the law's own end, with 1 on the stack, nothing written that was there before, its room as the claim has it -/
theorem lw_ret {p : Program} {l : Launch} {e : Env} {s : State} {m : MethodId} {below : List Frame} {meth : Method} {c : Code} {b : Nat} (hx : p.tables.exec = Jvm.exec) (hb : c.code = code) (hr : meth.sig.returnType = ret) (hlocks : meth.locks = false) {pc : Nat} {H : Heap} {ls : Array Slot} (hdg : decode code pc = .ok (.ireturn, 1)) : W p l e room_1 s m #[Value.ref b] below meth c H [] 21 2271 (lw_Z below #[Value.ref b] s) (F0 m pc ls [.int 1]) := by
  intro T hT X
  obtain ⟨fs, hret, hrun, hended, hW, hframe⟩ := X.leave (v := some (.int 1)) (hlocks := hlocks) (fun h => by rw [hr] at h; cases h)
  have hmeth' : T.vm.method? m = some meth := X.method'
  refine ⟨T.setFrames fs, ?_, .returned (some (.int 1)), hrun, hended, rfl, ⟨_, rfl⟩, hW, hframe⟩
  jvm_step X.here [X.here.top, hx, hb, hdg, hmeth', hr, ret, narrow_b1]
  (try refine ⟨rfl, ?_⟩); (try refine ⟨rfl, ?_⟩)
  first | (intro acts; rw [hret _ acts rfl rfl rfl]) | rw [hret _ _ rfl rfl rfl]
  exact Steps.refl _
/-- what holds at the law's entry: the machine, the code, the tables' words (any of lw_tbl by 'hts w (by decide +kernel)'), the script of L ints xs at the cell b, what the Statement gives of the start (any of its parts by flat_of_before) -/
def lw_At (p : Program) (s : State) (m : MethodId) (meth : Method) (c : Code) (b L : Nat) (xs : Nat → Int32) : Prop :=
  p.tables.exec = Jvm.exec ∧ c.code = code ∧ meth.sig.returnType = ret ∧ c.maxLocals = 4 ∧ s.vm.findClass R_law = some m.cls ∧ (∀ w ∈ lw_tbl, w.before #[Value.ref b] s = true) ∧ va_X b L xs s s.heap ∧ b < s.heap.size ∧ meth.locks = false ∧ (Jvm.Cond.and given_1 narrow_1).before #[Value.ref b] s = true
section LCALL
variable {p : Program} {l : Launch} {e : Env} {R : Room} {s : State} {m : MethodId} {args : Array Value} {below : List Frame} {meth : Method} {c : Code} {H : Heap} {locs : List Loc} {cells slots : Nat} {Q : State → Prop}
variable {y : MethodName} {bytes cc : ByteArray} {maxL nL n index : Nat} {ret : Option FieldType} {ws : List Cond} {rm : Room} {Ts : List Cond} {own C : String} {b : Nat} {As rest st0 : List Value} {pc : Nat} {ls : Array Slot} {D : va_G} {tys : TyL} {A A0 : Nat → Prop} {H0 : Heap} {w2 : va_W}
variable {σ : Type} {Wd : σ → va_W} {Iv : σ → Prop} {S : σ}
theorem L_Wi {v : Int32 × σ} (F : CallFix p m c cc nL s args Ts own) (hM : GWi l y ws rm (.ref b :: As) D tys Wd Iv A S v) (cw : CallW R s args own C index y bytes maxL ret ws rm 0 0 n) (hK : va_K D vwCl tys s) (hN : KN s) (hP : va_P D vwCl (Wd S) H) (hI : Iv S) (hrec : ∃ cell : Cell, H[b]? = some cell ∧ cell.vm.isStatics = false ∧ s.vm.findClass C = some cell.cls) (hP2 : va_P D vwCl w2 H) (hdis : ∀ (k : Nat) (q : Nat × va_E), w2[k]? = some q → ¬ A q.1) (hS : va_S A0 H0 H locs) (h10 : ∀ q, A q → A0 q) (hn : As.length = n) (hsize : ls.size = nL) (hst : st0 = As.reverse ++ .ref b :: rest) (hW : (rest.map fun v => v.category).sum ≤ 8) (hdg : decode cc pc = .ok (.invokevirtual index, 3)) (hf : cells ≤ R.cells ∧ slots ≤ R.slots)
    (kk : ∀ (H1 : Heap) (locs1 : List Loc), Iv v.2 → va_P D vwCl (Wd v.2) H1 → va_P D vwCl w2 H1 → va_S A0 H0 H1 locs1 → W p l e R s m args below meth c H1 locs1 cells slots Q (F0 m (pc + 3) ls (.int v.1 :: rest))) : W p l e R s m args below meth c H locs cells slots Q (F0 m pc ls st0) :=
  va_calli (va_runV F hM cw (g_preV hK hN hP hI hrec) rfl hn hsize hst (lv_room hW) hdg hf) hS (fun q _ h => h10 q h) (fun q h => h10 q h) (fun r u t H1 locs1 ht _ hp hB _ hk hS1 => by
    subst ht; subst hp
    exact kk _ locs1 hB.2 hB.1 (hP2.kept (fun k q hq => hk q.1 (hP2 k q hq).lt (hdis k q hq))) hS1)
theorem L_Ri {v : Int32} (F : CallFix p m c cc nL s args Ts own) (hM : GRi l y ws rm (.ref b :: As) D tys Wd Iv A S v) (cw : CallW R s args own C index y bytes maxL ret ws rm 0 0 n) (hK : va_K D vwCl tys s) (hN : KN s) (hP : va_P D vwCl (Wd S) H) (hI : Iv S) (hrec : ∃ cell : Cell, H[b]? = some cell ∧ cell.vm.isStatics = false ∧ s.vm.findClass C = some cell.cls) (hP2 : va_P D vwCl w2 H) (hdis : ∀ (k : Nat) (q : Nat × va_E), w2[k]? = some q → ¬ A q.1) (hS : va_S A0 H0 H locs) (h10 : ∀ q, A q → A0 q) (hn : As.length = n) (hsize : ls.size = nL) (hst : st0 = As.reverse ++ .ref b :: rest) (hW : (rest.map fun v => v.category).sum ≤ 8) (hdg : decode cc pc = .ok (.invokevirtual index, 3)) (hf : cells ≤ R.cells ∧ slots ≤ R.slots)
    (kk : ∀ (H1 : Heap) (locs1 : List Loc), va_P D vwCl (Wd S) H1 → va_P D vwCl w2 H1 → va_S A0 H0 H1 locs1 → W p l e R s m args below meth c H1 locs1 cells slots Q (F0 m (pc + 3) ls (.int v :: rest))) : W p l e R s m args below meth c H locs cells slots Q (F0 m pc ls st0) :=
  va_calli (va_runV F hM cw (g_preV hK hN hP hI hrec) rfl hn hsize hst (lv_room hW) hdg hf) hS (fun q _ h => h10 q h) (fun q h => h10 q h) (fun r u t H1 locs1 ht _ hp hB _ hk hS1 => by
    obtain ⟨h1, h2⟩ := hp
    subst h1; subst h2; subst ht
    exact kk _ locs1 hB.1 (hP2.kept (fun k q hq => hk q.1 (hP2 k q hq).lt (hdis k q hq))) hS1)
theorem L_Rl {v : Int64} (F : CallFix p m c cc nL s args Ts own) (hM : GRl l y ws rm (.ref b :: As) D tys Wd Iv A S v) (cw : CallW R s args own C index y bytes maxL ret ws rm 0 0 n) (hK : va_K D vwCl tys s) (hN : KN s) (hP : va_P D vwCl (Wd S) H) (hI : Iv S) (hrec : ∃ cell : Cell, H[b]? = some cell ∧ cell.vm.isStatics = false ∧ s.vm.findClass C = some cell.cls) (hP2 : va_P D vwCl w2 H) (hdis : ∀ (k : Nat) (q : Nat × va_E), w2[k]? = some q → ¬ A q.1) (hS : va_S A0 H0 H locs) (h10 : ∀ q, A q → A0 q) (hn : As.length = n) (hsize : ls.size = nL) (hst : st0 = As.reverse ++ .ref b :: rest) (hW : (rest.map fun v => v.category).sum ≤ 8) (hdg : decode cc pc = .ok (.invokevirtual index, 3)) (hf : cells ≤ R.cells ∧ slots ≤ R.slots)
    (kk : ∀ (H1 : Heap) (locs1 : List Loc), va_P D vwCl (Wd S) H1 → va_P D vwCl w2 H1 → va_S A0 H0 H1 locs1 → W p l e R s m args below meth c H1 locs1 cells slots Q (F0 m (pc + 3) ls (.long v :: rest))) : W p l e R s m args below meth c H locs cells slots Q (F0 m pc ls st0) :=
  va_calll (va_runV F hM cw (g_preV hK hN hP hI hrec) rfl hn hsize hst (lv_room hW) hdg hf) hS (fun q _ h => h10 q h) (fun q h => h10 q h) (fun r u t H1 locs1 ht _ hp hB _ hk hS1 => by
    obtain ⟨h1, h2⟩ := hp
    subst h1; subst h2; subst ht
    exact kk _ locs1 hB.1 (hP2.kept (fun k q hq => hk q.1 (hP2 k q hq).lt (hdis k q hq))) hS1)
end LCALL
theorem cw_get {cI cJ : ClassId} {a : Nat → Nat} {S : KS} {i : Nat} (hi : i < 11) : ∃ e, (cw cI cJ a S)[i]? = some (a i, e) := by
  match i, hi with
  | 0, _ => exact ⟨_, rfl⟩
  | 1, _ => exact ⟨_, rfl⟩
  | 2, _ => exact ⟨_, rfl⟩
  | 3, _ => exact ⟨_, rfl⟩
  | 4, _ => exact ⟨_, rfl⟩
  | 5, _ => exact ⟨_, rfl⟩
  | 6, _ => exact ⟨_, rfl⟩
  | 7, _ => exact ⟨_, rfl⟩
  | 8, _ => exact ⟨_, rfl⟩
  | 9, _ => exact ⟨_, rfl⟩
  | 10, _ => exact ⟨_, rfl⟩
theorem mw_get {cI cJ : ClassId} {a : Nat → Nat} {S : MS} {i : Nat} (hi : i < 10) : ∃ e, (mw cI cJ a S)[i]? = some (a i, e) := by
  match i, hi with
  | 0, _ => exact ⟨_, rfl⟩
  | 1, _ => exact ⟨_, rfl⟩
  | 2, _ => exact ⟨_, rfl⟩
  | 3, _ => exact ⟨_, rfl⟩
  | 4, _ => exact ⟨_, rfl⟩
  | 5, _ => exact ⟨_, rfl⟩
  | 6, _ => exact ⟨_, rfl⟩
  | 7, _ => exact ⟨_, rfl⟩
  | 8, _ => exact ⟨_, rfl⟩
  | 9, _ => exact ⟨_, rfl⟩
theorem lcmp_eq {x y : Int64} (h : x = y) : lg_cmp x y = 0 := by
  subst h
  unfold lg_cmp
  rw [if_neg (by rw [gt_iff_lt, Int64.lt_iff_toInt_lt]; omega), if_pos rfl]
theorem sc_in {i L k : Nat} (h : i + 5 ≤ L) (hL : L ≤ 2560) (hk : k < 5) : vp_in (nI i + nI k) L := by
  rw [nI_add]; exact vp_in_nI (by omega) (by omega)
theorem sc_lt {i L : Nat} (hL : L ≤ 2560) (hi : i ≤ L) (c : ¬ (nI L - 5 : Int32) < nI i) : i + 5 ≤ L := by
  have h := nlt c
  rw [show (5 : Int32) = nI 5 from rfl, pk_sub_toInt (by omega) (by decide), nI_toInt (by omega)] at h
  omega
theorem sc_inc (i : Nat) : nI i + 5 = nI (i + 5) := by rw [show (5 : Int32) = nI 5 from rfl, nI_add]
