/-! my own: one form of worlds, calls, answers, method starts -/
abbrev xT (cI cJ cZ : ClassId) : List (ClassId × FieldType) := [(cI, .int), (cJ, .long), (cZ, .boolean)]
def xN1 : Cond := .methodLinkNest RX5 55 yX9_crossing RX9
def xN2 : Cond := .methodLinkNest RX7 24 yX9_leastBehind RX9
def xPre (D : va_G) (cI cJ cZ : ClassId) (ws : va_W) (sz : Nat) (U : State) : Prop := U.heap.size = sz ∧ va_P D vwCl ws U.heap ∧ va_K D vwCl (xT cI cJ cZ) U ∧ va_D (fun _ => True) ws ∧ va_Nw xN1 U ∧ va_Nw xN2 U
def xPost (D : va_G) (A : Nat → Prop) (ws : va_W) (t : State) : Prop := va_P D vwCl ws t.heap ∧ va_D A ws
def xEnv (p : Program) (s : State) (m : MethodId) (args : Array Value) (meth : Method) (c : Code) (cc : ByteArray) (rt : Option FieldType) (nL : Nat) (own : String) (Ts : List Cond) (D : va_G) (cI cJ cZ : ClassId) (A : Nat → Prop) : Prop :=
  p.tables.exec = Jvm.exec ∧ c.code = cc ∧ meth.sig.returnType = rt ∧ c.maxLocals = nL ∧ s.vm.findClass own = some m.cls ∧ (∀ w ∈ Ts, w.before args s = true) ∧ meth.locks = false ∧ va_K D vwCl (xT cI cJ cZ) s ∧ (∀ q : Nat, s.heap.size ≤ q → A q) ∧ va_Nw xN1 s ∧ va_Nw xN2 s
theorem xPre_blind {av : List Value} {D : va_G} {cI cJ cZ : ClassId} {ws : va_W} {sz : Nat} : FrameBlind (va_Pc av (xPre D cI cJ cZ ws sz)) := fun a U g mk q => by
  obtain ⟨q0, q1, qP, qK, qD, n1, n2⟩ := q
  exact ⟨q0, q1, qP, va_K.moved (u := U) (U := U.calling g mk a) (Vm.Alike.refl U.vm) qK, qD, va_Nw.same rfl rfl n1, va_Nw.same rfl rfl n2⟩
theorem xPre_at {s : State} {H : Heap} {A : Nat → Prop} {av : List Value} {D : va_G} {cI cJ cZ : ClassId} {wc : va_W} (hK : va_K D vwCl (xT cI cJ cZ) s) (hP : va_P D vwCl wc H) (hD : va_D A wc) (n1 : va_Nw xN1 s) (n2 : va_Nw xN2 s) : ∀ U : State, U.heap = H → s.WarmedH U.vm → va_Pc av (xPre D cI cJ cZ wc H.size) av.toArray U :=
  fun U hU hW => ⟨rfl, by rw [hU], by rw [hU]; exact hP, va_K.moved hW.alike hK, hD.weaken (fun _ _ _ _ => trivial), va_Nw.warmM hW n1, va_Nw.warmM hW n2⟩
abbrev xPick (ws : va_W) (is : List Nat) : va_W := is.filterMap (fun i => ws[i]?)
theorem xPick_map {ws : va_W} : ∀ {is : List Nat}, is.all (fun i => decide (i < ws.length)) = true → is.map (fun i => ws[i]?) = (xPick ws is).map some
  | [], _ => rfl
  | i :: is, h => by
    simp only [List.all_cons, Bool.and_eq_true, decide_eq_true_eq] at h
    have e : ws[i]? = some ws[i] := List.getElem?_eq_getElem h.1
    have ih := xPick_map (ws := ws) (is := is) h.2
    simp only [List.map_cons, xPick, List.filterMap_cons, e] at ih ⊢
    rw [ih]
theorem xPick_len {ws : va_W} {is : List Nat} (h : is.all (fun i => decide (i < ws.length)) = true) : (xPick ws is).length = is.length := by
  have := congrArg List.length (xPick_map h)
  simpa using this.symm
def xCk (n k : Nat) (isC isR ps : List Nat) : Bool := isC.all (fun i => decide (i < n)) && isR.all (fun i => decide (i < n)) && va_nd isC && va_nd isR && isR.all (fun i => !isC.contains i) && va_nd ps && ps.all (fun i => decide (i < isR.length + k))
theorem x_join {A0 : Nat → Prop} {D : va_G} {ws wc w1 ws' : va_W} {H H1 : Heap} (hP : va_P D vwCl ws H) (hD : va_D A0 ws) (isC isR ps : List Nat) (hC : xPick ws isC = wc) (hck : xCk ws.length w1.length isC isR ps = true) (hps : xPick (xPick ws isR ++ w1) ps = ws')
    (hk : ∀ q : Nat, q < H.size → ¬ va_A wc H.size q → H1[q]? = H[q]?) (hF : ∀ q, va_A wc H.size q → A0 q) (hP1 : va_P D vwCl w1 H1) (hD1 : va_D (va_A wc H.size) w1) : va_P D vwCl ws' H1 ∧ va_D A0 ws' := by
  simp only [xCk, Bool.and_eq_true] at hck
  obtain ⟨⟨⟨⟨⟨⟨h1, h2⟩, h3⟩, h4⟩, h5⟩, h6⟩, h7⟩ := hck
  have hdis : ∀ i ∈ isR, i ∉ isC := fun i hi hc => by
    have := List.all_eq_true.mp h5 i hi
    simp at this
    exact this hc
  obtain ⟨hP2, hD2⟩ := va_join (wr := xPick ws isR) hP hD isC isR (by rw [← hC]; exact xPick_map h1) (xPick_map h2) h4 hdis hk hF hP1 hD1
  have h8 : ps.all (fun i => decide (i < (xPick ws isR ++ w1).length)) = true := by
    rw [List.length_append, xPick_len h2]
    exact h7
  exact ⟨hP2.sub ps hps, hD2.sub ps h6 (by rw [← hps]; exact xPick_map h8)⟩
theorem x_sub {A0 : Nat → Prop} {D : va_G} {ws wc : va_W} {H : Heap} (hP : va_P D vwCl ws H) (hD : va_D A0 ws) (is : List Nat) {n : Nat} (hn : ws.length = n) (hC : xPick ws is = wc) (hck : xCk n 0 is [] [] = true) : va_P D vwCl wc H ∧ va_D A0 wc := by
  subst hn
  simp only [xCk, Bool.and_eq_true] at hck
  exact ⟨hP.sub is hC, hD.sub is hck.1.1.1.1.2 (by rw [← hC]; exact xPick_map hck.1.1.1.1.1.1)⟩
section XA
variable {p : Program} {l : Launch} {e : Env} {R : Room} {s : State} {m : MethodId} {args : Array Value} {below : List Frame} {meth : Method} {c : Code} {H : Heap} {locs : List Loc} {cells slots : Nat} {Q : State → Prop} {D : va_G} {A0 A : Nat → Prop} {H0 : Heap} {pc : Nat} {ls : Array Slot} {rest st0 : List Value} {a : Array Value} {cc : ByteArray}
theorem x_calli {T : Type} {post : Int32 → T → Prop} {w1 ws' : T → va_W} {ws wc : va_W} (hP : va_P D vwCl ws H) (hD : va_D A0 ws) (hS : va_S A0 H0 H locs) (hA : ∀ q, H0.size ≤ q → A0 q) (isC isR ps : List Nat) {n k : Nat} (hn : ws.length = n) (hkl : ∀ u, (w1 u).length = k) (hC : xPick ws isC = wc) (hck : xCk n k isC isR ps = true) (hps : ∀ u, xPick (xPick ws isR ++ w1 u) ps = ws' u)
    (hr : va_Run p l e R s m args below meth c H locs cells slots 0 0 (F0 m pc ls st0) rest (va_Qi post (fun u t => xPost D (va_A wc H.size) (w1 u) t) (va_A wc H.size) a) (va_A wc H.size))
    (kk : ∀ (r : Int32) (u : T) (H1 : Heap) (locs1 : List Loc), post r u → va_P D vwCl (ws' u) H1 → va_D A0 (ws' u) → va_S A0 H0 H1 locs1 → W p l e R s m args below meth c H1 locs1 cells slots Q (F0 m (pc + 3) ls (.int r :: rest))) : W p l e R s m args below meth c H locs cells slots Q (F0 m pc ls st0) := by
  have hF : ∀ q, va_A wc H.size q → A0 q := fun q h => by
    rcases h with ⟨k, e, h⟩ | h
    · rw [← hC] at h
      obtain ⟨i, -, hi⟩ := List.mem_filterMap.mp (List.mem_of_getElem? h)
      exact hD.2 i _ hi
    · exact hA q (Nat.le_trans hS.1 h)
  refine va_calli hr hS (fun q _ h => hF q h) hF (fun r u t H1 locs1 ht hvm hw hB hz1 hk1 hS1 => ?_)
  obtain ⟨hP1, hD1⟩ := hB
  rw [ht] at hP1
  obtain ⟨hP2, hD2⟩ := x_join hP hD isC isR ps hC (by rw [hn, hkl u]; exact hck) (hps u) hk1 hF hP1 hD1
  exact kk r u H1 locs1 hw hP2 hD2 hS1
theorem x_calll {T : Type} {post : Int64 → T → Prop} {w1 ws' : T → va_W} {ws wc : va_W} (hP : va_P D vwCl ws H) (hD : va_D A0 ws) (hS : va_S A0 H0 H locs) (hA : ∀ q, H0.size ≤ q → A0 q) (isC isR ps : List Nat) {n k : Nat} (hn : ws.length = n) (hkl : ∀ u, (w1 u).length = k) (hC : xPick ws isC = wc) (hck : xCk n k isC isR ps = true) (hps : ∀ u, xPick (xPick ws isR ++ w1 u) ps = ws' u)
    (hr : va_Run p l e R s m args below meth c H locs cells slots 0 0 (F0 m pc ls st0) rest (va_Ql post (fun u t => xPost D (va_A wc H.size) (w1 u) t) (va_A wc H.size) a) (va_A wc H.size))
    (kk : ∀ (r : Int64) (u : T) (H1 : Heap) (locs1 : List Loc), post r u → va_P D vwCl (ws' u) H1 → va_D A0 (ws' u) → va_S A0 H0 H1 locs1 → W p l e R s m args below meth c H1 locs1 cells slots Q (F0 m (pc + 3) ls (.long r :: rest))) : W p l e R s m args below meth c H locs cells slots Q (F0 m pc ls st0) := by
  have hF : ∀ q, va_A wc H.size q → A0 q := fun q h => by
    rcases h with ⟨k, e, h⟩ | h
    · rw [← hC] at h
      obtain ⟨i, -, hi⟩ := List.mem_filterMap.mp (List.mem_of_getElem? h)
      exact hD.2 i _ hi
    · exact hA q (Nat.le_trans hS.1 h)
  refine va_calll hr hS (fun q _ h => hF q h) hF (fun r u t H1 locs1 ht hvm hw hB hz1 hk1 hS1 => ?_)
  obtain ⟨hP1, hD1⟩ := hB
  rw [ht] at hP1
  obtain ⟨hP2, hD2⟩ := x_join hP hD isC isR ps hC (by rw [hn, hkl u]; exact hck) (hps u) hk1 hF hP1 hD1
  exact kk r u H1 locs1 hw hP2 hD2 hS1
theorem x_callv {T : Type} {post : T → Prop} {w1 ws' : T → va_W} {ws wc : va_W} (hP : va_P D vwCl ws H) (hD : va_D A0 ws) (hS : va_S A0 H0 H locs) (hA : ∀ q, H0.size ≤ q → A0 q) (isC isR ps : List Nat) {n k : Nat} (hn : ws.length = n) (hkl : ∀ u, (w1 u).length = k) (hC : xPick ws isC = wc) (hck : xCk n k isC isR ps = true) (hps : ∀ u, xPick (xPick ws isR ++ w1 u) ps = ws' u)
    (hr : va_Run p l e R s m args below meth c H locs cells slots 0 0 (F0 m pc ls st0) rest (va_Qv post (fun u t => xPost D (va_A wc H.size) (w1 u) t) (va_A wc H.size) a) (va_A wc H.size))
    (kk : ∀ (u : T) (H1 : Heap) (locs1 : List Loc), post u → va_P D vwCl (ws' u) H1 → va_D A0 (ws' u) → va_S A0 H0 H1 locs1 → W p l e R s m args below meth c H1 locs1 cells slots Q (F0 m (pc + 3) ls rest)) : W p l e R s m args below meth c H locs cells slots Q (F0 m pc ls st0) := by
  have hF : ∀ q, va_A wc H.size q → A0 q := fun q h => by
    rcases h with ⟨k, e, h⟩ | h
    · rw [← hC] at h
      obtain ⟨i, -, hi⟩ := List.mem_filterMap.mp (List.mem_of_getElem? h)
      exact hD.2 i _ hi
    · exact hA q (Nat.le_trans hS.1 h)
  refine va_callv hr hS (fun q _ h => hF q h) hF (fun u t H1 locs1 ht hvm hw hB hz1 hk1 hS1 => ?_)
  obtain ⟨hP1, hD1⟩ := hB
  rw [ht] at hP1
  obtain ⟨hP2, hD2⟩ := x_join hP hD isC isR ps hC (by rw [hn, hkl u]; exact hck) (hps u) hk1 hF hP1 hD1
  exact kk u H1 locs1 hw hP2 hD2 hS1
theorem x_iret {T : Type} {post : Int32 → T → Prop} {w1 : T → va_W} {v : Int32} (hx : p.tables.exec = Jvm.exec) (hb : c.code = cc) (hr : meth.sig.returnType = some .int) (hlocks : meth.locks = false) (u : T) (hw : post v u) (hP : va_P D vwCl (w1 u) H) (hD : va_D A (w1 u)) (hS : va_S A s.heap H locs) (hdg : decode cc pc = .ok (.ireturn, 1)) :
    W p l e R s m args below meth c H locs cells slots (MQ below (va_Qi post (fun u t => xPost D A (w1 u) t) A) args s cells slots A) (F0 m pc ls [.int v]) :=
  W.iret (v := v) hx hb hr (fun t ht hW => ⟨⟨v, u, rfl, hw, by rw [ht]; exact hP, hD⟩, hS.F ht⟩) hS.2.2 hdg hlocks
theorem x_zret {T : Type} {post : Int32 → T → Prop} {w1 : T → va_W} {v : Int32} (hx : p.tables.exec = Jvm.exec) (hb : c.code = cc) (hr : meth.sig.returnType = some .boolean) (hlocks : meth.locks = false) (hv : v &&& 1 = v) (u : T) (hw : post v u) (hP : va_P D vwCl (w1 u) H) (hD : va_D A (w1 u)) (hS : va_S A s.heap H locs) (hdg : decode cc pc = .ok (.ireturn, 1)) :
    W p l e R s m args below meth c H locs cells slots (MQ below (va_Qi post (fun u t => xPost D A (w1 u) t) A) args s cells slots A) (F0 m pc ls [.int v]) :=
  W.zret (v := v) (ty := .boolean) hx hb hr (by show Value.int (v &&& 1) = .int v; rw [hv]) (fun t ht hW => ⟨⟨v, u, rfl, hw, by rw [ht]; exact hP, hD⟩, hS.F ht⟩) hS.2.2 hdg hlocks
theorem x_lret {T : Type} {post : Int64 → T → Prop} {w1 : T → va_W} {v : Int64} (hx : p.tables.exec = Jvm.exec) (hb : c.code = cc) (hr : meth.sig.returnType = some .long) (hlocks : meth.locks = false) (u : T) (hw : post v u) (hP : va_P D vwCl (w1 u) H) (hD : va_D A (w1 u)) (hS : va_S A s.heap H locs) (hdg : decode cc pc = .ok (.lreturn, 1)) :
    W p l e R s m args below meth c H locs cells slots (MQ below (va_Ql post (fun u t => xPost D A (w1 u) t) A) args s cells slots A) (F0 m pc ls [.long v]) :=
  W.lret (v := v) hx hb hr (fun t ht hW => ⟨⟨v, u, rfl, hw, by rw [ht]; exact hP, hD⟩, hS.F ht⟩) hS.2.2 hdg hlocks
theorem x_vret {T : Type} {post : T → Prop} {w1 : T → va_W} (hx : p.tables.exec = Jvm.exec) (hb : c.code = cc) (hr : meth.sig.returnType = none) (hlocks : meth.locks = false) (u : T) (hw : post u) (hP : va_P D vwCl (w1 u) H) (hD : va_D A (w1 u)) (hS : va_S A s.heap H locs) (hdg : decode cc pc = .ok (.return_, 1)) :
    W p l e R s m args below meth c H locs cells slots (MQ below (va_Qv post (fun u t => xPost D A (w1 u) t) A) args s cells slots A) (F0 m pc ls []) :=
  W.vret hx hb hr (fun t ht hW => ⟨⟨u, rfl, hw, by rw [ht]; exact hP, hD⟩, hS.F ht⟩) hS.2.2 hdg hlocks
theorem x_aret {post : Nat → Prop} {w1 : va_W} {a0 a1 v : Nat} (hx : p.tables.exec = Jvm.exec) (hb : c.code = cc) (hr : meth.sig.returnType = some (.array .int)) (hlocks : meth.locks = false) (k : Nat) (hv : v = if k = 0 then a0 else a1) (hw : post k) (hP : va_P D vwCl w1 H) (hD : va_D A w1) (hS : va_S A s.heap H locs) (hdg : decode cc pc = .ok (.areturn, 1)) :
    W p l e R s m args below meth c H locs cells slots (MQ below (va_Qr post (fun u r t => r = (if u = 0 then a0 else a1) ∧ xPost D A w1 t) A) args s cells slots A) (F0 m pc ls [.ref v]) :=
  W.aret (v := .ref v) (rt := .array .int) hx hb hr (Or.inr ⟨_, rfl⟩) (Or.inr ⟨_, rfl⟩) (fun t ht hW => ⟨⟨k, v, rfl, hw, hv, by rw [ht]; exact hP, hD⟩, hS.F ht⟩) hS.2.2 hdg hlocks
theorem x_callr {post : Nat → Prop} {a0 a1 : Nat} {w1 ws' : va_W} {ws wc : va_W} (hP : va_P D vwCl ws H) (hD : va_D A0 ws) (hS : va_S A0 H0 H locs) (hA : ∀ q, H0.size ≤ q → A0 q) (isC isR ps : List Nat) {n k : Nat} (hn : ws.length = n) (hkl : w1.length = k) (hC : xPick ws isC = wc) (hck : xCk n k isC isR ps = true) (hps : xPick (xPick ws isR ++ w1) ps = ws')
    (hr : va_Run p l e R s m args below meth c H locs cells slots 0 0 (F0 m pc ls st0) rest (va_Qr post (fun u r t => r = (if u = 0 then a0 else a1) ∧ xPost D (va_A wc H.size) w1 t) (va_A wc H.size) a) (va_A wc H.size))
    (kk : ∀ (u : Nat) (H1 : Heap) (locs1 : List Loc), post u → va_P D vwCl ws' H1 → va_D A0 ws' → va_S A0 H0 H1 locs1 → W p l e R s m args below meth c H1 locs1 cells slots Q (F0 m (pc + 3) ls (.ref (if u = 0 then a0 else a1) :: rest))) : W p l e R s m args below meth c H locs cells slots Q (F0 m pc ls st0) := by
  have hF : ∀ q, va_A wc H.size q → A0 q := fun q h => by
    rcases h with ⟨k, e, h⟩ | h
    · rw [← hC] at h
      obtain ⟨i, -, hi⟩ := List.mem_filterMap.mp (List.mem_of_getElem? h)
      exact hD.2 i _ hi
    · exact hA q (Nat.le_trans hS.1 h)
  refine va_callr hr hS (fun q _ h => hF q h) hF (fun u r t H1 locs1 ht hvm hw hB hz1 hk1 hS1 => ?_)
  obtain ⟨hre, hP1, hD1⟩ := hB
  rw [ht] at hP1
  obtain ⟨hP2, hD2⟩ := x_join hP hD isC isR ps hC (by rw [hn, hkl]; exact hck) hps hk1 hF hP1 hD1
  rw [hre]
  exact kk u H1 locs1 hw hP2 hD2 hS1
end XA
theorem x_met {l : Launch} {y : MethodName} {ws ws' : List Cond} {rm : Room} {cc : ByteArray} {maxL : Nat} {ret : Option FieldType} {own : String} {D : va_G} {cI cJ cZ : ClassId} {W0 : va_W} {sz : Nat} {av : List Value} {Qc : (Nat → Prop) → Array Value → State → Outcome → State → Prop} {mc ms : Nat} (hy : plainName y.cls = true) (hw : ws = Cond.code y cc maxL ret :: ws') (ho : y.cls = own) (hlen : (lg_sl av).length ≤ maxL)
    (body : ∀ (p : Program) (e : Env) (s : State) (m : MethodId) (args : Array Value) (below : List Frame) (meth : Method) (c : Code) (A : Nat → Prop) (ls : Array Slot), xEnv p s m args meth c cc ret maxL own ws D cI cJ cZ A → va_P D vwCl W0 s.heap → va_D A W0 → va_S A s.heap s.heap [] → lv_has ls maxL (lv_args 0 av) → W p l e rm s m args below meth c s.heap [] 0 0 (MQ below (Qc A) args s mc ms A) (F0 m 0 ls [])) :
    Met l y ws rm (va_Pc av (xPre D cI cJ cZ W0 sz)) (Qc (va_A W0 sz)) mc ms (va_A W0 sz) := by
  refine Met.ofW (cc := cc) (maxL := maxL) (ret := ret) hy hw ?_
  intro p e s m args below meth c s₁ B hml hv
  obtain ⟨rfl, hsz, hP, hK, hD0, n1, n2⟩ := hv
  subst hsz
  have hown : s.vm.findClass own = some m.cls := by rw [← ho]; exact findClass_of_methodNamed B.named
  have hts := atoms_spec (ws := ws) B.pre
  have hl := lv_entry av (n := maxL) hlen
  rw [lg_entry_eq]
  generalize (lg_sl av ++ List.replicate (maxL - (lg_sl av).length) Slot.unset).toArray = ls at hl ⊢
  exact body p e s m _ below meth c _ ls ⟨B.exec, B.bytes, B.returns, hml, hown, hts, B.notSynchronized, hK, fun q h => Or.inr h, n1, n2⟩ hP hD0.self va_S.rf hl
theorem xSw5 {x : Int32} (h1 : ¬ x.toInt < 0) (h2 : ¬ 5 < x.toInt) (c0 : ¬ x = 0) (c1 : ¬ x = 1) (c2 : ¬ x = 2) (c3 : ¬ x = 3) (c4 : ¬ x = 4) : x = 5 := by
  have d0 : x.toInt ≠ 0 := fun h => c0 (Int32.toInt_inj.mp (h.trans (by decide)))
  have d1 : x.toInt ≠ 1 := fun h => c1 (Int32.toInt_inj.mp (h.trans (by decide)))
  have d2 : x.toInt ≠ 2 := fun h => c2 (Int32.toInt_inj.mp (h.trans (by decide)))
  have d3 : x.toInt ≠ 3 := fun h => c3 (Int32.toInt_inj.mp (h.trans (by decide)))
  have d4 : x.toInt ≠ 4 := fun h => c4 (Int32.toInt_inj.mp (h.trans (by decide)))
  have e : x.toInt = 5 := by omega
  exact Int32.toInt_inj.mp (e.trans (by decide))
theorem xSw10 {x : Int32} (h1 : ¬ x.toInt < 0) (h2 : ¬ 10 < x.toInt) (c0 : ¬ x = 0) (c1 : ¬ x = 1) (c2 : ¬ x = 2) (c3 : ¬ x = 3) (c4 : ¬ x = 4) (c5 : ¬ x = 5) (c6 : ¬ x = 6) (c7 : ¬ x = 7) (c8 : ¬ x = 8) (c9 : ¬ x = 9) : x = 10 := by
  have d0 : x.toInt ≠ 0 := fun h => c0 (Int32.toInt_inj.mp (h.trans (by decide)))
  have d1 : x.toInt ≠ 1 := fun h => c1 (Int32.toInt_inj.mp (h.trans (by decide)))
  have d2 : x.toInt ≠ 2 := fun h => c2 (Int32.toInt_inj.mp (h.trans (by decide)))
  have d3 : x.toInt ≠ 3 := fun h => c3 (Int32.toInt_inj.mp (h.trans (by decide)))
  have d4 : x.toInt ≠ 4 := fun h => c4 (Int32.toInt_inj.mp (h.trans (by decide)))
  have d5 : x.toInt ≠ 5 := fun h => c5 (Int32.toInt_inj.mp (h.trans (by decide)))
  have d6 : x.toInt ≠ 6 := fun h => c6 (Int32.toInt_inj.mp (h.trans (by decide)))
  have d7 : x.toInt ≠ 7 := fun h => c7 (Int32.toInt_inj.mp (h.trans (by decide)))
  have d8 : x.toInt ≠ 8 := fun h => c8 (Int32.toInt_inj.mp (h.trans (by decide)))
  have d9 : x.toInt ≠ 9 := fun h => c9 (Int32.toInt_inj.mp (h.trans (by decide)))
  have e : x.toInt = 10 := by omega
  exact Int32.toInt_inj.mp (e.trans (by decide))
